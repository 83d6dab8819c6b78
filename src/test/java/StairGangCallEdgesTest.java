import java.util.NoSuchElementException;

/**
 * The calls at their boundaries: each sentence behind "==== 2." and "==== 3." and of the promises that names one stands
 * here, and what is due by it.
 */
public final class StairGangCallEdgesTest {
    private static final int NO_SUCH = -77;
    private static final int[] WILD = {Integer.MIN_VALUE, Integer.MIN_VALUE + 1, -33, -32, -2, 31, 32, 33, 64, 1 << 16, Integer.MAX_VALUE - 1,
        Integer.MAX_VALUE};
    /** Two of all, so that 2 is the first number that is none; PLACES 0 to 2 and 6, 7. */
    private static final String TWO = "house a floors 2;house b floors 1;flight a 0 rise 5 odds 5;flight b 0 rise 6 odds 4;"
            + "thing t lifts 3 at a 0;thing u lifts 4 at b 0;person p at a 0 reach 1 throws 1 wants a 1;"
            + "person q at b 0 reach 2 throws 2 wants b 1;hill k rise 5 pays 7;hill l rise 6 pays 8;heap 20;";

    private static String sentence = "";
    private static int wrong = 0;

    public static void main(String[] args) {
        nothing();
        calls();
        places();
        climbing();
        street();
        costs();
        cutOff();
        stealing();
        building();
        going();
        carrying();
        nightsPass();
        undoing();
        refusedIsNotUndone();
        judging();
        alone();
        plans();
        thefts();
        seeing();
        fitting();
        orders();
        post();
        watch();
        bids();
        live();
        best();
        draws();
        years();
        marks();
        others();
        refusedChangesNothing();
        System.out.println(wrong == 0 ? "all edges of the calls hold" : wrong + " edges of the calls do not hold");
        if (wrong != 0) {
            System.exit(1);
        }
    }

    private static void says(String words) {
        sentence = words;
    }

    private static void due(String what, long got, long want) {
        if (got != want) {
            wrong++;
            System.out.println("\"" + sentence + "\": " + what + " answered " + got + ", due is " + want);
        }
    }

    private static void due(String what, boolean got, boolean want) {
        due(what, got ? 1 : 0, want ? 1 : 0);
    }

    private static void feed(StairGang x, String text) {
        for (int i = 0; i < text.length(); i += 24) {
            long[] parts = new long[3];
            for (int k = 0; k < 24; k++) {
                int sign = i + k < text.length() ? text.charAt(i + k) : 0;
                parts[k / 8] = parts[k / 8] << 8 | sign;
            }
            x.feed(parts[0], parts[1], parts[2]);
        }
    }

    private static StairGang of(String text) {
        StairGang x = new StairGang();
        feed(x, text);
        due("town " + text, x.town(), 0);
        return x;
    }

    private static StairGang of(String text, int... stolen) {
        StairGang x = of(text);
        for (int flight : stolen) {
            due("steal " + flight + " of " + text, x.steal(flight) >= 0, true);
        }
        return x;
    }

    private static StairGang told(StairGang x, String text) {
        feed(x, text);
        due("nights " + text, x.nights(), 0);
        return x;
    }

    private static int restsOf(StairGang x, int one, int other, int flight, int what) {
        try {
            return x.rests(one, other, flight, what);
        } catch (NoSuchElementException e) {
            return NO_SUCH;
        }
    }

    /** Numbers that are none of 0 to count less 1. */
    private static int[] noneOf(int count) {
        int[] all = new int[WILD.length + 3];
        System.arraycopy(WILD, 0, all, 0, WILD.length);
        all[WILD.length] = -1;
        all[WILD.length + 1] = count;
        all[WILD.length + 2] = count + 1;
        return all;
    }

    /** Ten flights of two HOUSES of five floors each, numbered from the top of a down, then from the top of b down. */
    private static String tenFlights(String rest) {
        StringBuilder s = new StringBuilder("house a floors 5;house b floors 5;");
        for (int i = 0; i < 10; i++) {
            s.append("flight ").append("ab".charAt(i / 5)).append(' ').append(4 - i % 5).append(rest);
        }
        return s.toString();
    }

    private static void nothing() {
        says("Nothing.");
        nothingIn(new StairGang());
        says("TOWN: any number of");
        nothingIn(of(""));
        StairGang x = of(TWO, 0);
        told(x, "steal a 0;night;");
        x.see(0, 1, true);
        x.mark(0, false);
        due("an empty TOWN behind a full one", x.town(), 0);
        nothingIn(x);
    }

    private static void nothingIn(StairGang x) {
        int[] none = {x.flight(0, 0), x.flight(0, 4), x.person(0, 0), x.person(0, 3), x.thing(0), x.reach(0), x.cost(0, 0), x.steal(0), x.build(0),
            x.alone(0), x.post(0, 0), x.post(0, 1), x.live(0, 0, 1), x.best(0, 1), x.judged(0), x.judged(1)};
        for (int i = 0; i < none.length; i++) {
            due("none, the " + i + "-th", none[i], -1);
        }
        int[] zero = {x.cut(), x.judged(2), x.plan(0), x.plan(1), x.thefts(0, 0, 0), x.thefts(10, 5, 1), x.fits(1), x.fits(2), x.fits(3),
            x.orders(0), x.orders(1), x.watch(), x.years(0, 1, 0), x.years(9999, 100, 1), x.years(7, 50, 2)};
        for (int i = 0; i < zero.length; i++) {
            due("0, the " + i + "-th", zero[i], 0);
        }
        due("one set, the empty one", x.fits(0), 1);
        due("no row", x.orders(2), -2);
        due("go", x.go(0, 0), false);
        due("carry", x.carry(0, 0, 0), false);
        due("see", x.see(0, 0, true), false);
        due("undo", x.undo(), false);
        due("rests", restsOf(x, 0, 1, 0, -1), NO_SUCH);
        for (int mark = 0; mark < 4; mark++) {
            due("mark " + mark, x.mark(mark, true), false);
        }
        for (int what = 0; what < 13; what++) {
            due("count " + what, x.count(what), 0);
        }
    }

    private static void calls() {
        says("An object is used for at most 512 calls after it has been made");
        StairGang x = new StairGang();
        for (int i = 1; i <= 511; i++) {
            due("night " + i, x.night(), i);
        }
        due("the 512th call", x.count(6), 511);
        StairGang y = of("house a floors 1;flight a 0 rise 1 odds 0;heap 999;price 999;");
        for (int i = 0; i < 240; i++) {
            due("stolen", y.steal(0), 999);
            due("built", y.build(0), 998 - i);
        }
        due("sold", y.count(7), 240 * 999);
        due("heap", y.count(5), 999 - 240);
    }

    private static void places() {
        says("A PLACE is a floor of a HOUSE: its number is HOUSE * 6 + floor");
        StairGang x = of("house a floors 5;house b floors 1;house c floors 5;house d floors 2;house e floors 5;"
                + "thing t lifts 1 at a 0;thing u lifts 1 at a 5;thing v lifts 1 at e 5;person p at e 5 reach 0 throws 0 wants b 1;");
        due("a 0", x.thing(0), 0);
        due("a 5", x.thing(1), 5);
        due("e 5", x.thing(2), 29);
        due("e 5", x.person(0, 0), 29);
        due("b 1", x.person(0, 3), 7);
        for (int place = -7; place < 40; place++) {
            int house = place / 6;
            int floors = place < 0 || house > 4 ? -1 : new int[] {5, 1, 5, 2, 5}[house];
            boolean is = place >= 0 && place % 6 <= floors;
            due("live at " + place, x.live(0, place, 1) != -1, is);
            due("cost to " + place, x.cost(0, place), place == 29 ? 0 : -1);
        }
        for (int place : WILD) {
            due("live at " + place, x.live(0, place, 1), -1);
            due("see at " + place, x.see(0, place, false), false);
            due("cost to " + place, x.cost(0, place), -1);
            due("go to " + place, x.go(0, place), false);
        }
        for (int place = -7; place < 40; place++) {
            StairGang y = of("house a floors 2;house b floors 1;person p at a 0 reach 0 throws 0 wants a 0;");
            due("see at " + place, y.see(0, place, false), place >= 0 && place <= 2 || place == 6 || place == 7);
        }
    }

    private static int reachUp(int reach, int rise, String things, boolean gone) {
        StairGang x = of("house a floors 2;house b floors 1;flight a 0 rise " + rise + " odds 0;" + things
                + "person p at a 0 reach " + reach + " throws 0 wants a 1;");
        if (gone) {
            x.steal(0);
        }
        return x.reach(0) & 7;
    }

    private static int reachDown(int reach, int rise, String things) {
        StairGang x = of("house a floors 2;house b floors 1;flight a 0 rise " + rise + " odds 0;" + things
                + "person p at a 1 reach " + reach + " throws 0 wants a 1;", 0);
        return x.reach(0) & 7;
    }

    private static void climbing() {
        says("to the next floor up or down if a flight is told there, and it is there");
        due("there: reach 0 is enough", reachUp(0, 40, "", false), 3);
        due("not told: reach 40 is not", reachUp(40, 1, "thing t lifts 40 at a 1;", false), 3);
        says("or its rise is no more than his reach");
        due("gone, 20 of 20", reachUp(20, 20, "", true), 3);
        due("gone, 20 of 21", reachUp(20, 21, "", true), 1);
        due("gone, 40 of 40", reachUp(40, 40, "", true), 3);
        due("gone, 0 of 1", reachUp(0, 1, "", true), 1);
        due("down, 20 of 20", reachDown(20, 20, ""), 3);
        due("down, 20 of 21", reachDown(20, 21, ""), 2);
        says("and what all THINGS at the lower one of the two lift together");
        String t = "thing t lifts 3 at a 0;";
        due("3 + 4 of 7", reachUp(3, 7, "thing t lifts 4 at a 0;", true), 3);
        due("3 + 4 of 8", reachUp(3, 8, "thing t lifts 4 at a 0;", true), 1);
        due("four THINGS: 3 + 3 + 4 + 5 + 6 of 21", reachUp(3, 21, t + "thing u lifts 4 at a 0;thing v lifts 5 at a 0;thing w lifts 6 at a 0;", true), 3);
        due("four THINGS of 22", reachUp(3, 22, t + "thing u lifts 4 at a 0;thing v lifts 5 at a 0;thing w lifts 6 at a 0;", true), 1);
        due("at the upper one", reachUp(3, 7, "thing t lifts 4 at a 1;", true), 1);
        due("at the street of another HOUSE", reachUp(3, 7, "thing t lifts 4 at b 0;", true), 1);
        due("down, at the lower one", reachDown(3, 7, "thing t lifts 4 at a 0;"), 3);
        due("down, one too little", reachDown(3, 8, "thing t lifts 4 at a 0;"), 2);
        due("down, at the upper one", reachDown(3, 7, "thing t lifts 4 at a 1;"), 2);
        says("REACH: PLACES he can come to (his own, too)");
        StairGang x = of("house a floors 5;person p at a 3 reach 40 throws 0 wants a 0;");
        due("his own alone", x.reach(0), 8);
        StairGang y = of("house a floors 5;house b floors 5;house c floors 5;house d floors 5;house e floors 5;person p at e 0 reach 0 throws 0 wants a 0;"
                + "person q at e 5 reach 0 throws 0 wants a 0;");
        due("the street of five HOUSES", y.reach(0), 1 | 1 << 6 | 1 << 12 | 1 << 18 | 1 << 24);
        due("the highest bit", y.reach(1), 1 << 29);
    }

    private static void street() {
        says("and over the street (floor 0) from each HOUSE to each other one");
        StairGang x = of("house a floors 1;house b floors 1;house c floors 1;flight a 0 rise 3 odds 0;flight b 0 rise 4 odds 0;flight c 0 rise 5 odds 0;"
                + "person p at a 1 reach 0 throws 0 wants c 1;walk 7;");
        due("a to b, one walk", x.cost(0, 7), 3 + 7 + 4);
        due("a to c, one walk", x.cost(0, 13), 3 + 7 + 5);
        due("within a none", x.cost(0, 0), 3);
        StairGang y = of("house a floors 1;house b floors 1;person p at a 1 reach 40 throws 0 wants b 1;");
        due("not from floor 1", y.reach(0), 2);
        due("not to floor 1", of("house a floors 1;house b floors 1;person p at a 0 reach 40 throws 0 wants b 1;").reach(0), 1 | 1 << 6);
    }

    private static void costs() {
        says("It costs the rise if the flight is there, else twice the rise; walk over the street");
        String a = "house a floors 2;house b floors 1;flight a 0 rise 8 odds 0;flight a 1 rise 9 odds 0;flight b 0 rise 3 odds 0;"
                + "person p at a 0 reach 40 throws 0 wants a 0;";
        due("there, though he could climb", of(a).cost(0, 2), 17);
        due("one is gone", of(a, 1).cost(0, 2), 8 + 18);
        due("both are gone", of(a, 1, 0).cost(0, 2), 34);
        due("walk 0", of(a + "walk 0;").cost(0, 7), 3);
        due("walk 60", of(a + "walk 60;").cost(0, 7), 63);
        due("walk 60 to the street", of(a + "walk 60;", 2).cost(0, 6), 60);
        says("COST: the least to a PLACE");
        due("his own", of(a + "walk 60;").cost(0, 0), 0);
        StairGang x = of(tenFlights(" rise 40 odds 0;") + "person p at a 5 reach 40 throws 0 wants b 5;walk 60;", 0, 1, 2, 3, 4, 5, 6, 7, 8, 9);
        due("the dearest", x.cost(0, 11), 10 * 80 + 60);
        says("COST to a PLACE; NONE: others, he can't come there");
        due("no such PERSON", x.cost(1, 0), -1);
        due("he can't", of(a.replace("reach 40", "reach 7"), 1, 0).cost(0, 1), -1);
        due("he can", of(a.replace("reach 40", "reach 8"), 1, 0).cost(0, 1), 16);
    }

    private static void cutOff() {
        says("CUT OFF is who can't come where he wants");
        due("nobody is there", of("house a floors 1;").cut(), 0);
        due("who is there is not", of("house a floors 2;person p at a 2 reach 0 throws 0 wants a 2;").cut(), 0);
        StringBuilder s = new StringBuilder("house a floors 2;flight a 0 rise 9 odds 0;");
        for (int i = 0; i < 5; i++) {
            s.append("person ").append((char) ('p' + i)).append(" at a 0 reach ").append(7 + i).append(" throws 0 wants a 1;");
        }
        due("none while it is there", of(s.toString()).cut(), 0);
        due("7 and 8 of 9", of(s.toString(), 0).cut(), 3);
        due("all five", of(s.toString().replace("a 1;", "a 2;")).cut(), 31);
    }

    private static void stealing() {
        String a = "house a floors 4;house b floors 1;flight a 3 rise 1 odds 0;flight a 0 rise 2 odds 0;flight a 1 rise 3 odds 0;flight b 0 rise 4 odds 0;";
        says("STEAL: a flight that is there, if of its HOUSE all told ones above it are gone");
        StairGang x = of(a);
        due("a 0 below both", x.steal(1), -1);
        due("a 1, though the flight right above it is not told", x.steal(2), -1);
        due("b 0, whatever is in a", x.steal(3), 4);
        due("a 3", x.steal(0), 1);
        due("a 0 below a 1", x.steal(1), -1);
        due("a 1", x.steal(2), 3);
        due("a 0", x.steal(1), 2);
        due("once more", x.steal(1), -1);
        due("flights that are there", x.count(8), 0);
        says("sold for the E of price (0 below it, 999 above)");
        String[] laws = {"0-1", "0", "1", "998", "999", "1000", "9999", "0-9999", "8192*8192*32", "8192*8192*32-1", "999*999*0-1+999+1"};
        int[] sold = {0, 0, 1, 998, 999, 999, 999, 0, 0, 999, 999};
        for (int i = 0; i < laws.length; i++) {
            StairGang y = of("house a floors 1;flight a 0 rise 5 odds 0;price " + laws[i] + ";");
            due("price " + laws[i], y.steal(0), sold[i]);
            due("sold by price " + laws[i], y.count(7), sold[i]);
        }
        says("STEAL: what it is sold for; NONE: others, it can't be");
        StairGang z = of(a);
        for (int flight : noneOf(4)) {
            due("steal " + flight, z.steal(flight), -1);
        }
        due("nothing is sold", z.count(7), 0);
        due("all are there", z.count(8), 4);
        StairGang w = of("house a floors 1;flight a 0 rise 5 odds 0;price 0;");
        due("sold for 0 is stolen", w.steal(0), 0);
        due("it is gone", w.flight(0, 4), 0);
        due("it can be undone", w.count(11), 1);
    }

    private static void building() {
        String a = "house a floors 2;flight a 0 rise 5 odds 0;flight a 1 rise 6 odds 0;";
        says("BUILD: one that is gone, if the heap is no less than its rise, which it loses");
        due("it is there", of(a + "heap 99;").build(0), -1);
        due("just as much", of(a + "heap 6;", 1).build(1), 0);
        due("one less", of(a + "heap 5;", 1).build(1), -1);
        due("one more", of(a + "heap 7;", 1).build(1), 1);
        due("an empty heap", of(a, 1).build(1), -1);
        StairGang x = of(a + "heap 11;", 1, 0);
        due("the upper one first", x.build(1), 5);
        due("then the lower one, with one above it", x.build(0), 0);
        due("the heap", x.count(5), 0);
        due("there", x.count(8), 2);
        says("BUILD: what is left of the heap; NONE: others, it can't be");
        StairGang y = of(a + "heap 999;", 1);
        due("nothing is left out", y.build(1), 993);
        for (int flight : noneOf(2)) {
            due("build " + flight, y.build(flight), -1);
        }
        due("the heap stays", y.count(5), 993);
    }

    private static void going() {
        says("GO to a PLACE in REACH (his own, too)");
        StairGang x = of("house a floors 2;house b floors 1;flight a 0 rise 5 odds 0;flight b 0 rise 6 odds 0;person p at a 1 reach 5 throws 0 wants a 0;");
        due("his own", x.go(0, 1), true);
        due("his own counts", x.count(11), 1);
        due("no flight told", x.go(0, 2), false);
        x.steal(0);
        x.steal(1);
        due("5 of 5", x.go(0, 6), true);
        due("5 of 6", x.go(0, 7), false);
        due("where he was left", x.person(0, 0), 6);
        says("GO: true; false: others, it can't be");
        for (int person : noneOf(1)) {
            due("go " + person, x.go(person, 0), false);
        }
        for (int place : new int[] {-1, 3, 5, 8, 11, 12, 29, 30, Integer.MIN_VALUE, Integer.MAX_VALUE}) {
            due("go to " + place, x.go(0, place), false);
        }
        due("two can be undone beside the thefts", x.count(11), 4);
    }

    private static void carrying() {
        says("CARRY: a THING at his own PLACE to a PLACE that would be in REACH if that THING lifted nothing: both are there then");
        String a = "house a floors 2;house b floors 1;flight a 0 rise 9 odds 0;thing t lifts 4 at a 0;thing u lifts 5 at a 0;thing v lifts 9 at b 0;"
                + "person p at a 0 reach 4 throws 0 wants a 1;";
        StairGang x = of(a, 0);
        due("t: 4 + 5 of 9", x.carry(0, 0, 1), true);
        due("t is there", x.thing(0), 1);
        due("he is there", x.person(0, 0), 1);
        due("u stays", x.thing(1), 0);
        due("u is not at his own", x.carry(0, 1, 1), false);
        due("down again, on u", x.carry(0, 0, 0), true);
        due("u: 4 + 4 of 9", x.carry(0, 1, 1), false);
        due("u stays", x.thing(1), 0);
        due("u to the other HOUSE", x.carry(0, 1, 6), true);
        due("u to where it is", x.carry(0, 1, 6), true);
        due("that counts", x.count(11), 5);
        due("v lifts 9, but not itself", x.carry(0, 2, 7), false);
        due("up while the flight is there", of(a).carry(0, 1, 1), true);
        says("CARRY: true; false: others, it can't be");
        StairGang y = of(a);
        for (int person : noneOf(1)) {
            due("carry by " + person, y.carry(person, 0, 0), false);
        }
        for (int thing : noneOf(3)) {
            due("carry of " + thing, y.carry(0, thing, 0), false);
        }
        for (int place : new int[] {-1, 2, 3, 5, 7, 8, 12, 30, Integer.MIN_VALUE, Integer.MAX_VALUE}) {
            due("carry to " + place, y.carry(0, 0, place), false);
        }
        due("nothing can be undone", y.count(11), 0);
    }

    private static void nightsPass() {
        says("NIGHT: one more has passed");
        StairGang x = new StairGang();
        due("the first one, in no TOWN", x.night(), 1);
        due("the second one", x.night(), 2);
        due("nights", x.count(6), 2);
        due("NIGHTS are none of them", told(x, "night;night;").count(6), 2);
    }

    private static void undoing() {
        says("UNDO: these, the last 16, one by one");
        for (int acts : new int[] {0, 1, 15, 16, 17, 33}) {
            StairGang x = of("heap 1;");
            for (int i = 0; i < acts; i++) {
                x.night();
            }
            int can = Math.min(16, acts);
            due(acts + " nights: what can be undone", x.count(11), can);
            for (int i = 1; i <= can; i++) {
                due(acts + " nights: undo " + i, x.undo(), true);
                due(acts + " nights: passed", x.count(6), acts - i);
                due(acts + " nights: left", x.count(11), can - i);
            }
            due(acts + " nights: nothing can be", x.undo(), false);
            due(acts + " nights: passed at last", x.count(6), acts - can);
        }
        StairGang y = new StairGang();
        for (int i = 0; i < 40; i++) {
            y.night();
        }
        for (int i = 0; i < 5; i++) {
            y.undo();
        }
        for (int i = 0; i < 3; i++) {
            y.night();
        }
        due("16 less 5 and 3", y.count(11), 14);
        for (int i = 0; i < 14; i++) {
            due("undo " + i, y.undo(), true);
        }
        due("no more", y.undo(), false);
        due("40 less 16", y.count(6), 24);
        says("UNDO: true; false: nothing can be");
        due("a new object", new StairGang().undo(), false);
        StairGang z = of(TWO);
        z.steal(0);
        z.build(0);
        z.go(0, 1);
        z.go(0, 0);
        z.carry(0, 0, 1);
        z.night();
        int[][] want = {{0, 20 - 5, 5, 1, 1}, {0, 15, 5, 0, 0}, {0, 15, 5, 1, 0}, {0, 15, 5, 0, 0}, {0, 20, 5, 0, 0}, {0, 20, 0, 0, 0}};
        int[] there = {2, 2, 2, 2, 1, 2};
        for (int i = 0; i < 6; i++) {
            due("undo " + i, z.undo(), true);
            due("undo " + i + ": nights", z.count(6), want[i][0]);
            due("undo " + i + ": heap", z.count(5), want[i][1]);
            due("undo " + i + ": sold", z.count(7), want[i][2]);
            due("undo " + i + ": person", z.person(0, 0), want[i][3]);
            due("undo " + i + ": thing", z.thing(0), want[i][4]);
            due("undo " + i + ": there", z.count(8), there[i]);
        }
        due("nothing", z.undo(), false);
    }

    private static void refusedIsNotUndone() {
        says("UNDO: these");
        StairGang x = of(TWO);
        x.night();
        x.steal(2);
        x.build(0);
        x.go(0, 2);
        x.carry(0, 1, 0);
        x.mark(4, false);
        x.mark(0, true);
        told(x, "night;");
        x.see(0, 0, true);
        x.mark(0, false);
        x.years(1, 1, 0);
        x.judged(0);
        due("one alone can be", x.count(11), 1);
        due("undo", x.undo(), true);
        due("the night", x.count(6), 0);
        due("NIGHTS stay", x.count(9), 1);
        due("SEEN stays", x.count(10), 1);
        due("undone is not done", x.undo(), false);
        due("the MARK stays", x.mark(0, true), true);
        due("it was laid behind the night", x.count(6), 1);
    }

    private static void judging() {
        String a = "house a floors 2;flight a 0 rise 5 odds 0;flight a 1 rise 6 odds 0;person p at a 0 reach 0 throws 0 wants a 1;heap 5;";
        says("JUDGED: the NIGHTS from the beginning");
        StairGang x = told(of(a), "steal a 1;");
        x.steal(1);
        x.night();
        due("not from now", x.judged(0), -1);
        due("sold", x.judged(2), 6);
        says("the first line (from 0) that can't be (night always can; lines that can't be are left out)");
        due("no NIGHTS", of(a).judged(0), -1);
        due("nights alone", told(of(a), "night;".repeat(40)).judged(0), -1);
        due("line 0", told(of(a), "steal a 0;night;").judged(0), 0);
        due("line 39", told(of(a), "night;".repeat(39) + "build a 0;").judged(0), 39);
        due("the first of two", told(of(a), "night;build a 0;build a 0;").judged(0), 1);
        due("left out: a 0 is still there", told(of(a), "steal a 0;steal a 1;steal a 0;").judged(2), 11);
        due("the heap is less by 5 then", told(of(a), "steal a 1;steal a 0;build a 0;build a 1;").judged(0), 3);
        says("the first one that can be, behind which somebody is CUT OFF");
        due("no NIGHTS", of(a).judged(1), -1);
        due("nobody", told(of(a), "night;steal a 1;").judged(1), -1);
        due("line 1", told(of(a), "steal a 1;steal a 0;build a 0;").judged(1), 1);
        String cut = "house a floors 2;person p at a 0 reach 0 throws 0 wants a 2;flight a 0 rise 1 odds 0;";
        due("from the beginning on, no lines", of(cut).judged(1), -1);
        due("from the beginning on, the first that can be", told(of(cut), "build a 0;go p a 2;night;").judged(1), 2);
        due("none can be", told(of(cut), "build a 0;go p a 2;").judged(1), -1);
        due("line 39", told(of(a), "night;".repeat(38) + "steal a 1;steal a 0;").judged(1), 39);
        StairGang two = of(TWO);
        due("flight 1, PERSON 1, THING 1", told(two, "steal b 0;go q a 0;go q a 1;go q b 0;carry q u a 0;build b 0;").judged(0), -1);
        due("b 0 can't be built while it is there", told(two, "steal a 0;build b 0;").judged(0), 1);
        due("b 0 is gone, and built", told(two, "steal b 0;build b 0;build b 0;").judged(0), 2);
        due("q can come up to a 1, and down on t", told(two, "go q a 1;steal a 0;go q a 1;go q b 0;").judged(0), -1);
        due("not down without t", told(two, "go q a 1;steal a 0;carry p t b 0;go q b 0;").judged(0), 3);
        due("p can't go up where q could, on t with his reach of 2", told(two, "steal a 0;go p a 1;go q a 1;").judged(0), 1);
        due("u is with q, not with p", told(two, "carry q u a 0;carry p t a 1;carry p u a 1;").judged(0), 2);
        says("what is sold at last");
        due("no NIGHTS", of(a).judged(2), 0);
        due("sold, built, sold", told(of(a), "steal a 1;steal a 0;build a 0;steal a 0;").judged(2), 16);
        due("what was sold by hand is not", x.judged(2), 6);
        says("what 0, 1: lines (NONE: none), 2: sold; -2: others");
        for (int what : noneOf(3)) {
            due("judged " + what, x.judged(what), -2);
        }
    }

    private static void alone() {
        says("each of which, were it alone gone, would cut him off (nobody who is CUT OFF has any)");
        String a = "house a floors 2;house b floors 1;flight a 0 rise 5 odds 0;flight a 1 rise 6 odds 0;flight b 0 rise 7 odds 0;";
        due("who is where he wants", of(a + "person p at a 2 reach 0 throws 0 wants a 2;").alone(0), 0);
        due("all on his way", of(a + "person p at a 2 reach 0 throws 0 wants b 1;").alone(0), 7);
        due("not what he climbs", of(a + "person p at a 2 reach 5 throws 0 wants b 1;").alone(0), 6);
        due("not what he climbs on a THING", of(a + "thing t lifts 2 at b 0;person p at a 2 reach 5 throws 0 wants b 1;").alone(0), 2);
        due("one is gone, he climbs it", of(a + "person p at a 2 reach 6 throws 0 wants b 1;", 1).alone(0), 4);
        due("one is gone, he is CUT OFF", of(a + "person p at a 2 reach 5 throws 0 wants b 1;", 1).alone(0), 0);
        due("no way is told", of("house a floors 2;flight a 0 rise 1 odds 0;person p at a 0 reach 0 throws 0 wants a 2;").alone(0), 0);
        says("ALONE, flights as bits; NONE: others");
        for (int person : noneOf(2)) {
            due("alone " + person, of(TWO).alone(person), -1);
        }
    }

    private static void plans() {
        String a = "house a floors 1;house b floors 1;house c floors 1;flight a 0 rise 5 odds 0;flight b 0 rise 6 odds 0;flight c 0 rise 6 odds 0;";
        String p = "person p at a 0 reach 0 throws 0 wants a 1;";
        String q = "person q at b 0 reach 0 throws 0 wants b 1;";
        says("sets of flights that are gone, of no more rise together than the heap, by which nobody is CUT OFF");
        due("just as much", of(a + p + q + "heap 11;", 0, 1, 2).plan(0), 11);
        due("just as much: bits", of(a + p + q + "heap 11;", 0, 1, 2).plan(1), 3);
        due("one less", of(a + p + q + "heap 10;", 0, 1, 2).plan(0), -1);
        due("one less: bits", of(a + p + q + "heap 10;", 0, 1, 2).plan(1), -1);
        due("one is there", of(a + p + q + "heap 6;", 1).plan(1), 2);
        due("the least rise", of(a + p + q + "heap 99;", 0, 1, 2).plan(0), 11);
        due("nobody is CUT OFF: the empty set", of(a, 0, 1, 2).plan(1), 0);
        due("nobody is CUT OFF: rise 0", of(a, 0, 1, 2).plan(0), 0);
        due("nothing helps", of(a.replace("a floors 1", "a floors 2") + p.replace("wants a 1", "wants a 2") + "heap 999;").plan(0), -1);
        due("nothing is told", new StairGang().plan(1), 0);
        StringBuilder five = new StringBuilder(tenFlights(" rise 40 odds 0;") + "heap 400;");
        five.append("person p at a 5 reach 0 throws 0 wants b 5;");
        due("all ten", of(five.toString(), 0, 1, 2, 3, 4, 5, 6, 7, 8, 9).plan(1), 1023);
        due("all ten: rise", of(five.toString(), 0, 1, 2, 3, 4, 5, 6, 7, 8, 9).plan(0), 400);
        due("all ten: one less", of(five.toString().replace("400", "399"), 0, 1, 2, 3, 4, 5, 6, 7, 8, 9).plan(0), -1);
        says("NONE: others, there is none");
        for (int what : noneOf(2)) {
            due("plan " + what, of(TWO).plan(what), -1);
        }
    }

    private static void thefts() {
        says("THEFTS, so many at most (0 to 10), by which no more than so many (0 to 5) are CUT OFF at last");
        StringBuilder s = new StringBuilder(tenFlights(" rise 4 odds 0;"));
        for (int i = 0; i < 5; i++) {
            s.append("person ").append((char) ('p' + i)).append(" at a 0 reach 0 throws 0 wants a ").append(i + 1).append(";");
        }
        StairGang x = of(s.toString());
        for (int many = 0; many <= 10; many++) {
            for (int cut = 0; cut <= 5; cut++) {
                int can = Math.min(many, 5 + cut);
                due("thefts " + many + ", " + cut, x.thefts(many, cut, 0), 4 * can);
                int ofA = Math.min(cut, can);
                int ofB = can - ofA;
                due("thefts " + many + ", " + cut + ": the least set", x.thefts(many, cut, 1), (1 << ofA) - 1 | (1 << ofB) - 1 << 5);
            }
        }
        for (int bad : noneOf(11)) {
            due("so many " + bad, x.thefts(bad, 0, 0), -1);
        }
        for (int bad : noneOf(6)) {
            due("so many CUT OFF " + bad, x.thefts(0, bad, 0), -1);
        }
        for (int bad : noneOf(2)) {
            due("what " + bad, x.thefts(0, 0, bad), -1);
        }
        says("so that of a HOUSE with each one all told ones above it are stolen or gone");
        String b = "house b floors 3;flight b 0 rise 9 odds 0;flight b 2 rise 1 odds 0;";
        due("one: the upper one", of(b).thefts(1, 0, 1), 2);
        due("two: both", of(b).thefts(2, 0, 1), 3);
        due("gone already", of(b, 1).thefts(1, 0, 1), 1);
        says("the most rise together; of equal ones the fewest, then the least set");
        String c = "house b floors 2;house c floors 1;flight b 1 rise 2 odds 0;flight b 0 rise 3 odds 0;flight c 0 rise 5 odds 0;";
        String p = "person p at b 0 reach 1 throws 0 wants b 1;person q at c 0 reach 4 throws 0 wants c 1;";
        due("5 by b, by c: the fewest", of(c + p).thefts(2, 1, 1), 5);
        due("7 by the two of the most rise", of(c + p).thefts(2, 1, 0), 7);
        due("nobody to be CUT OFF", of(c + p).thefts(3, 0, 1), 1);
        due("5 by c, not by both of b", of("house b floors 2;house c floors 1;flight b 1 rise 2 odds 0;flight b 0 rise 3 odds 0;flight c 0 rise 5 odds 0;"
                + "person p at b 1 reach 0 throws 0 wants b 2;person q at c 0 reach 0 throws 0 wants c 1;").thefts(2, 1, 1), 4);
        due("of equal ones the least set", of("house b floors 1;house c floors 1;flight b 0 rise 5 odds 0;flight c 0 rise 5 odds 0;").thefts(1, 0, 1), 1);
        says("NONE: others, there are none");
        StairGang y = of("house a floors 2;flight a 0 rise 1 odds 0;person p at a 0 reach 0 throws 0 wants a 2;");
        due("one is CUT OFF already", y.thefts(10, 0, 0), -1);
        due("one is CUT OFF already: bits", y.thefts(10, 0, 1), -1);
        due("one may be", y.thefts(10, 1, 0), 1);
        due("none at all", y.thefts(0, 1, 0), 0);
        due("none at all: bits", y.thefts(0, 1, 1), 0);
        due("nothing is told", new StairGang().thefts(10, 5, 1), 0);
    }

    private static void seeing() {
        says("SEEN: that a PERSON, from where he is now, with THINGS as they are, came to a PLACE, or could not; 8 at most");
        StairGang x = of(TWO);
        for (int i = 0; i < 8; i++) {
            due("see " + i, x.see(i % 2, 0, true), true);
            due("SEEN " + i, x.count(10), i + 1);
        }
        due("a ninth", x.see(0, 0, true), false);
        due("a ninth that could not", x.see(0, 0, false), false);
        due("SEEN", x.count(10), 8);
        due("the ninth is not SEEN", x.fits(0), 4);
        StairGang y = of(TWO);
        due("from where he is now", y.see(0, 1, true), true);
        due("he needs a 0", y.fits(1), 1);
        y.go(0, 1);
        due("where he goes later is one", y.fits(1), 1);
        y.see(0, 1, true);
        due("from there he needs none", y.fits(1), 1);
        y.carry(0, 0, 0);
        due("he is not with it", y.thing(0), 0);
        StairGang z = of(TWO);
        z.see(1, 7, true);
        due("2 + 4 of 6: on the THING", z.fits(1), 0);
        z.carry(1, 1, 0);
        due("carried off later", z.fits(1), 0);
        z.see(1, 7, true);
        due("now without it", z.fits(1), 2);
        says("SEEN: true; false: others, 8 are SEEN");
        StairGang w = of(TWO);
        for (int person : noneOf(2)) {
            due("see of " + person, w.see(person, 0, true), false);
        }
        for (int place : new int[] {-1, 3, 4, 5, 8, 12, 30, Integer.MIN_VALUE, Integer.MAX_VALUE}) {
            due("see to " + place, w.see(0, place, true), false);
            due("see to " + place, w.see(0, place, false), false);
        }
        due("nothing is SEEN", w.count(10), 0);
        due("a floor no flight leads to", w.see(0, 2, true), true);
        due("no set", w.fits(0), 0);
    }

    private static void fitting() {
        says("FITS: sets of flights told by which, were just these there, all SEEN is so: how many; those in all, in some; the least of the smallest");
        StairGang none = new StairGang();
        due("no flights: the empty set", none.fits(0), 1);
        due("no flights: in all", none.fits(1), 0);
        due("no flights: in some", none.fits(2), 0);
        due("no flights: the least", none.fits(3), 0);
        StairGang all = of(tenFlights(" rise 9 odds 0;") + "person p at a 5 reach 0 throws 0 wants b 5;");
        due("nothing SEEN: 1,024", all.fits(0), 1024);
        due("nothing SEEN: in all", all.fits(1), 0);
        due("nothing SEEN: in some", all.fits(2), 1023);
        all.see(0, 11, true);
        due("all ten", all.fits(0), 1);
        due("all ten: in all", all.fits(1), 1023);
        due("all ten: the least", all.fits(3), 1023);
        StairGang not = of(tenFlights(" rise 9 odds 0;") + "person p at a 5 reach 0 throws 0 wants b 5;");
        not.see(0, 11, false);
        due("all but all ten", not.fits(0), 1023);
        due("all but all ten: in some", not.fits(2), 1023);
        due("all but all ten: the least", not.fits(3), 0);
        not.see(0, 0, true);
        not.see(0, 10, false);
        due("the five of a, not the four", not.fits(0), 32 - 2);
        due("the five of a", not.fits(1), 31);
        due("the smallest", not.fits(3), 31);
        StairGang gone = of(TWO, 0, 1);
        due("gone now counts, too", gone.fits(0), 4);
        says("NONE: others, no set (but 0)");
        StairGang x = of(TWO);
        x.see(0, 0, false);
        due("he can't but be where he is: no set", x.fits(0), 0);
        due("no set: in all", x.fits(1), -1);
        due("no set: in some", x.fits(2), -1);
        due("no set: the least", x.fits(3), -1);
        for (int what : noneOf(4)) {
            due("fits " + what, x.fits(what), -1);
            due("fits " + what, of(TWO).fits(what), -1);
        }
    }

    private static void orders() {
        says("ORDERS: the first seven flights (or as many as there are) that are gone now, each for one HILL or none");
        StairGang x = of(tenFlights(" rise 5 odds 0;") + "hill k rise 35 pays 9;hill l rise 36 pays 99;");
        due("none is gone", x.orders(0), 0);
        due("none is gone: rise", x.orders(1), 0);
        due("none is gone: no row", x.orders(2), -2);
        for (int gone = 1; gone <= 10; gone++) {
            x.steal(gone - 1);
            int rows = Math.min(7, gone);
            due(gone + " are gone: the last row", x.orders(1 + rows), rows == 7 ? 0 : -1);
            due(gone + " are gone: no more rows", x.orders(2 + rows), -2);
            due(gone + " are gone: pay", x.orders(0), rows == 7 ? 9 : 0);
            due(gone + " are gone: rise", x.orders(1), rows == 7 ? 35 : 0);
        }
        says("a HILL has its order if their rise together is no less than its own, and pays then");
        String a = "house a floors 2;flight a 1 rise 4 odds 0;flight a 0 rise 5 odds 0;";
        due("9 of 9", of(a + "hill k rise 9 pays 3;", 0, 1).orders(0), 3);
        due("9 of 10", of(a + "hill k rise 10 pays 3;", 0, 1).orders(0), 0);
        due("9 of 10: none is given", of(a + "hill k rise 10 pays 3;", 0, 1).orders(1), 0);
        due("9 of 10: none has it", of(a + "hill k rise 10 pays 3;", 0, 1).orders(2), -1);
        due("no HILL", of(a, 0, 1).orders(0), 0);
        due("no HILL: a row", of(a, 0, 1).orders(3), -1);
        due("a HILL that pays 0 is given none", of(a + "hill k rise 1 pays 0;", 0, 1).orders(1), 0);
        due("one flight for one HILL", of(a + "hill k rise 5 pays 3;hill l rise 5 pays 3;", 0, 1).orders(0), 3);
        says("the most pay together; of equal ones the least rise that is given together");
        due("4 is enough", of(a + "hill k rise 4 pays 3;", 0, 1).orders(1), 4);
        due("4 is enough: row", of(a + "hill k rise 4 pays 3;", 0, 1).orders(3), -1);
        due("more pay for more rise", of(a + "hill k rise 4 pays 3;hill l rise 9 pays 4;", 0, 1).orders(1), 9);
        due("two pay more together", of(a + "hill k rise 4 pays 3;hill l rise 5 pays 2;hill m rise 9 pays 4;", 0, 1).orders(0), 5);
        says("of equal ones the first row (of each stolen flight, by numbers, its HILL, none behind all)");
        String b = "house a floors 3;flight a 2 rise 5 odds 0;flight a 1 rise 5 odds 0;flight a 0 rise 5 odds 0;";
        StairGang y = of(b + "hill k rise 5 pays 3;hill l rise 5 pays 3;", 0, 1, 2);
        due("k", y.orders(2), 0);
        due("l", y.orders(3), 1);
        due("none behind all", y.orders(4), -1);
        StairGang z = of(b + "hill k rise 99 pays 3;hill l rise 99 pays 3;hill m rise 99 pays 3;hill n rise 5 pays 3;", 0, 1, 2);
        due("the fourth HILL ahead of none", z.orders(2), 3);
        due("none", z.orders(3), -1);
        StairGang w = of(b + "hill k rise 10 pays 3;", 0, 1, 2);
        due("the first two", w.orders(3), 0);
        due("not the third", w.orders(4), -1);
        says("-2: others");
        for (int what : noneOf(5)) {
            due("orders " + what, y.orders(what), -2);
        }
        due("what was built again has no row", built(b + "heap 5;", 1).orders(4), -2);
    }

    private static StairGang built(String text, int flight) {
        StairGang x = of(text, 0, 1, 2);
        due("build", x.build(flight) >= 0, true);
        return x;
    }

    private static int twoPost(String first, String second, int far) {
        return of("house a floors 5;house b floors 5;person p at " + first + " reach 0 throws " + far + " wants a 0;person q at " + second
                + " reach 0 throws 0 wants a 0;").post(0, 1);
    }

    private static void post() {
        says("in each round everybody who has it throws it to everybody whose PLACE is no more floors away than he throws");
        due("0 floors, throws 0", twoPost("a 3", "a 3", 0), 3);
        due("1 floor, throws 0", twoPost("a 3", "a 4", 0), 1);
        due("5 floors, throws 5", twoPost("a 5", "a 0", 5), 3);
        due("5 floors, throws 4", twoPost("a 5", "a 0", 4), 1);
        due("5 floors up, throws 5", twoPost("a 0", "a 5", 5), 3);
        says("(between HOUSES: floors of both to the street together, and 1)");
        due("0 + 0 + 1, throws 1", twoPost("a 0", "b 0", 1), 3);
        due("0 + 0 + 1, throws 0", twoPost("a 0", "b 0", 0), 1);
        due("2 + 3 + 1, throws 6", twoPost("a 2", "b 3", 6), 3);
        due("2 + 3 + 1, throws 5", twoPost("a 2", "b 3", 5), 1);
        due("5 + 0 + 1, throws 6", twoPost("a 5", "b 0", 6), 3);
        due("5 + 1 + 1, throws 6", twoPost("a 5", "b 1", 6), 1);
        due("alike floors of two HOUSES are not 0 away", twoPost("a 3", "b 3", 6), 1);
        says("how many rounds till all have it who ever do; who that is");
        due("nobody else: 0 rounds", of("house a floors 1;person p at a 0 reach 0 throws 6 wants a 0;").post(0, 0), 0);
        due("nobody else: he alone", of("house a floors 1;person p at a 0 reach 0 throws 6 wants a 0;").post(0, 1), 1);
        StringBuilder s = new StringBuilder("house a floors 5;");
        for (int i = 0; i < 5; i++) {
            s.append("person ").append((char) ('p' + i)).append(" at a ").append(i).append(" reach 0 throws 1 wants a 0;");
        }
        StairGang x = of(s.toString());
        due("four rounds, floor by floor", x.post(0, 0), 4);
        due("all five", x.post(0, 1), 31);
        due("two from the midst", x.post(2, 0), 2);
        due("four from above", x.post(4, 0), 4);
        says("NONE: others");
        for (int bad : noneOf(5)) {
            due("post from " + bad, x.post(bad, 0), -1);
        }
        for (int bad : noneOf(2)) {
            due("post, what " + bad, x.post(0, bad), -1);
        }
    }

    private static int watchOf(String flights, String... places) {
        StringBuilder s = new StringBuilder("house a floors 3;house b floors 3;" + flights);
        for (int i = 0; i < places.length; i++) {
            s.append("person ").append((char) ('p' + i)).append(" at ").append(places[i]).append(" reach 0 throws 0 wants a 0;");
        }
        return of(s.toString()).watch();
    }

    private static void watch() {
        String low = "flight a 0 rise 1 odds 0;";
        String high = "flight a 1 rise 1 odds 0;";
        says("the fewest PEOPLE so that each flight that is there is seen by two of them");
        due("no flights, nobody", watchOf(""), 0);
        due("no flights", watchOf("", "a 0", "a 1"), 0);
        due("one flight, nobody", watchOf(low), -1);
        due("one flight, one", watchOf(low, "a 0"), -1);
        due("one flight, two at one PLACE", watchOf(low, "a 0", "a 0"), 3);
        due("one flight, two of five", watchOf(low, "a 2", "a 2", "b 3", "a 1", "a 0"), 24);
        due("two flights, two at the floor between", watchOf(low + high, "a 0", "a 2", "a 1", "a 1"), 12);
        due("all five", watchOf(low + high + "flight b 1 rise 1 odds 0;", "a 0", "a 1", "a 2", "b 1", "b 2"), 31);
        due("four of them are not enough", watchOf(low + high + "flight b 1 rise 1 odds 0;", "a 0", "a 1", "a 2", "b 1", "b 0"), -1);
        says("who is in its HOUSE, at its lower or upper floor");
        due("lower and upper", watchOf(high, "a 1", "a 2"), 3);
        due("one above", watchOf(high, "a 1", "a 3"), -1);
        due("one below", watchOf(high, "a 1", "a 0"), -1);
        due("the floor of another HOUSE", watchOf(high, "a 1", "b 1"), -1);
        says("or at the street anywhere if it is from floor 0");
        due("both on the street elsewhere", watchOf(low, "b 0", "b 0"), 3);
        due("above the street elsewhere", watchOf(low, "a 0", "b 1"), -1);
        due("not if it is from floor 1", watchOf(high, "a 1", "b 0"), -1);
        says("of equal ones the least set");
        due("the first two of three", watchOf(low, "a 0", "a 1", "b 0"), 3);
        says("WATCH, as bits; NONE: all are not enough");
        due("gone needs nobody", of("house a floors 1;" + low, 0).watch(), 0);
    }

    private static int bid(int rise, int first, int second, int what) {
        return restsOf(of("house a floors 1;flight a 0 rise " + rise + " odds 0;hill k rise 20 pays " + first + ";hill l rise 20 pays " + second + ";"),
                0, 1, 0, what);
    }

    /** All bids at rest, by trying each other bid of each of the two. */
    private static int slowRests(int first, int second, int number) {
        int found = 0;
        for (int one = 0; one < 10; one++) {
            for (int two = 0; two < 10; two++) {
                boolean rests = true;
                for (int other = 0; other < 10; other++) {
                    rests &= gets(first, other, two, true) <= gets(first, one, two, true);
                    rests &= gets(second, one, other, false) <= gets(second, one, two, false);
                }
                if (rests && found++ == number) {
                    return 10 * one + two;
                }
            }
        }
        return number == -1 ? found : NO_SUCH;
    }

    private static int gets(int worth, int one, int two, boolean isFirst) {
        boolean firstHas = one >= two;
        return firstHas != isFirst ? 0 : worth - (isFirst ? one : two);
    }

    private static void bids() {
        says("each bids 0 to 9: the higher one (the first one, if they are alike) has it for its bid");
        due("nobody wants it: 0, 0 alone", bid(20, 0, 0, -1), 1);
        due("nobody wants it", bid(20, 0, 0, 0), 0);
        due("the first one alone wants it: for 0", bid(20, 5, 0, 0), 0);
        due("the second one alone wants it: for 1", bid(20, 0, 5, 0), 1);
        due("both want it beyond 9", bid(20, 99, 99, -1), 1);
        due("9, 9: the first one has it", bid(20, 99, 99, 0), 99);
        says("its worth being pays if the rise is no less than its own, else half of that, cut");
        int[] pays = {0, 1, 2, 3, 8, 9, 10, 11, 17, 18, 19, 20, 21, 22, 98, 99};
        for (int first : pays) {
            for (int second : pays) {
                for (int what = -2; what < 12; what++) {
                    int number = what == -2 ? 1000 : what;
                    due("rise 20 of 20: " + first + ", " + second + ", what " + what, bid(20, first, second, what), slowRests(first, second, number));
                    due("rise 19 of 20: " + first + ", " + second + ", what " + what, bid(19, first, second, what),
                            slowRests(first / 2, second / 2, number));
                }
            }
        }
        says("NoSuchElementException: others, the same HILL, not there, none such");
        StairGang x = of(TWO);
        due("two", restsOf(x, 0, 1, 0, -1) >= 1, true);
        for (int bad : noneOf(2)) {
            due("one " + bad, restsOf(x, bad, 1, 0, -1), NO_SUCH);
            due("other " + bad, restsOf(x, 0, bad, 0, -1), NO_SUCH);
            due("flight " + bad, restsOf(x, 0, 1, bad, -1), NO_SUCH);
            due("both " + bad, restsOf(x, bad, bad, 0, -1), NO_SUCH);
        }
        due("the same HILL 0", restsOf(x, 0, 0, 0, -1), NO_SUCH);
        due("the same HILL 1", restsOf(x, 1, 1, 0, 0), NO_SUCH);
        int many = restsOf(x, 0, 1, 0, -1);
        due("the last one", restsOf(x, 0, 1, 0, many - 1) >= 0, true);
        due("one behind it", restsOf(x, 0, 1, 0, many), NO_SUCH);
        for (int bad : WILD) {
            due("what " + bad, restsOf(x, 0, 1, 0, bad), NO_SUCH);
        }
        x.steal(0);
        due("not there", restsOf(x, 0, 1, 0, -1), NO_SUCH);
        due("the other one is", restsOf(x, 0, 1, 1, -1) >= 1, true);
        x.build(0);
        due("there again", restsOf(x, 0, 1, 0, -1), many);
    }

    private static StairGang oneFlight(int odds) {
        return of("house a floors 1;flight a 0 rise 5 odds " + odds + ";person p at a 0 reach 4 throws 0 wants a 1;");
    }

    /** Each set's chances one with the other, cut each time, all sets together. */
    private static long allSets(long chance, int flights, long product) {
        if (flights == 0) {
            return product;
        }
        return allSets(chance, flights - 1, product * chance / 1000000) + allSets(chance, flights - 1, product * (1000000 - chance) / 1000000);
    }

    private static void live() {
        says("in so many nights (1 to 9) .. 1,000,000 times ten less odds, by 10, cut, night by night");
        int[] halves = {500000, 250000, 125000, 62500, 31250, 15625, 7812, 3906, 1953};
        for (int nights = 1; nights <= 9; nights++) {
            due("odds 5, nights " + nights, oneFlight(5).live(0, 0, nights), halves[nights - 1]);
            due("odds 0, nights " + nights, oneFlight(0).live(0, 0, nights), 1000000);
            due("odds 10, nights " + nights, oneFlight(10).live(0, 0, nights), 0);
            due("no flight needed, nights " + nights, oneFlight(5).live(0, 1, nights), 1000000);
        }
        due("odds 9, nine nights", oneFlight(9).live(0, 0, 9), 0);
        due("odds 9, six nights", oneFlight(9).live(0, 0, 6), 1);
        due("odds 9, seven nights: cut", oneFlight(9).live(0, 0, 7), 0);
        says("of all sets of flights that are there now");
        StairGang x = oneFlight(5);
        x.steal(0);
        due("gone: never", x.live(0, 0, 1), 0);
        due("gone: where he wants", x.live(0, 1, 9), 1000000);
        StairGang ten = of(tenFlights(" rise 5 odds 5;") + "person p at a 5 reach 0 throws 0 wants b 5;");
        due("all ten sets, each cut", ten.live(0, 11, 9), allSets(1953, 10, 1000000));
        due("all of them needed", ten.live(0, 5, 1), 976);
        due("half of them needed", ten.live(0, 6, 1), allSets(500000, 5, 1000000L / 32));
        StairGang oneGone = of("house a floors 1;house b floors 1;flight a 0 rise 5 odds 5;flight b 0 rise 5 odds 5;"
                + "person p at a 0 reach 0 throws 0 wants a 1;", 1);
        due("what is gone takes nothing off", oneGone.live(0, 0, 1), 500000);
        due("nor in nine nights", oneGone.live(0, 0, 9), 1953);
        says("(for itself, whatever is above it)");
        StairGang above = of("house a floors 2;flight a 0 rise 5 odds 5;flight a 1 rise 5 odds 0;person p at a 0 reach 0 throws 0 wants a 1;");
        due("stolen below one that stays", above.live(0, 0, 1), 500000);
        says("by which he can come where he wants");
        due("5 of 5: he climbs", of("house a floors 1;flight a 0 rise 5 odds 10;person p at a 0 reach 5 throws 0 wants a 1;").live(0, 0, 9), 1000000);
        says("LIVE of a PERSON, were he at a PLACE, in millionths; NONE: others");
        StairGang y = of(TWO);
        for (int bad : noneOf(2)) {
            due("live of " + bad, y.live(bad, 0, 1), -1);
        }
        for (int bad : noneOf(10)) {
            due("live, nights " + bad, y.live(0, 0, bad), -1);
            due("best, nights " + bad, y.best(0, bad), -1);
        }
        due("live, nights 0", y.live(0, 0, 0), -1);
        due("he stays where he is", y.person(0, 0), 0);
    }

    private static void best() {
        says("BEST: the PLACE of a HOUSE (floors as told) by which this is the greatest; of equal ones the first");
        due("where he wants", oneFlight(5).best(0, 1), 1);
        due("of equal ones the first", oneFlight(0).best(0, 9), 0);
        due("a floor that is not told is none", of("house a floors 1;house b floors 2;flight b 0 rise 5 odds 1;flight b 1 rise 5 odds 1;"
                + "person p at a 0 reach 0 throws 0 wants b 2;").best(0, 1), 8);
        due("all gone: where he wants", of("house a floors 2;flight a 0 rise 5 odds 1;person p at a 0 reach 0 throws 0 wants a 1;", 0).best(0, 9), 1);
        due("the last PLACE", of("house a floors 5;house b floors 5;house c floors 5;house d floors 5;house e floors 5;"
                + "person p at a 0 reach 0 throws 0 wants e 5;").best(0, 9), 29);
        says("BEST PLACE of a PERSON; NONE: others");
        for (int bad : noneOf(2)) {
            due("best of " + bad, of(TWO).best(bad, 1), -1);
        }
        due("best, nights 0", of(TWO).best(0, 0), -1);
        due("best, nights 9", of(TWO).best(0, 9) >= 0, true);
    }

    private static void draws() {
        says("A DRAW below m: g becomes (g * 1103515245 + 12345) modulo 2147483648 (g is the SEED at first); it is g / 65536, cut, modulo m");
        // SEED 0 draws 0, 21468, 9988, 22117, 3498, 16927, 16045, 19741, 12122, 8410, 12261, 27052
        String a = "house a floors 1;flight a 0 rise 5 odds 9;person p at a 0 reach 0 throws 0 wants a 1;heap ";
        StairGang x = of(a + "10;");
        int[] sold = {5, 10, 10, 10, 10, 10};
        int[] there = {1, 0, 0, 0, 0, 1};
        int[] cut = {0, 1, 2, 3, 4, 4};
        for (int nights = 1; nights <= 6; nights++) {
            due("sold in " + nights, x.years(0, nights, 0), sold[nights - 1]);
            due("there behind " + nights + ": each flight has its DRAW, gone or not", x.years(0, nights, 1), there[nights - 1]);
            due("CUT OFF in " + nights, x.years(0, nights, 2), cut[nights - 1]);
        }
        due("a heap of 9: built once", of(a + "9;").years(0, 6, 1), 0);
        due("a heap of 4: never", of(a + "4;").years(0, 1, 1), 0);
        // SEED 9999 draws 4241, 233, 22049
        due("SEED 9999: 1 is below 2", of(a.replace("odds 9", "odds 2") + "0;").years(9999, 1, 0), 5);
        due("SEED 9999: 1 is not below 1", of(a.replace("odds 9", "odds 1") + "0;").years(9999, 1, 0), 0);
    }

    private static void years() {
        says("below its odds it is STOLEN, if it can be");
        String a = "house a floors 2;flight a 0 rise 5 odds ODDS;flight a 1 rise 7 odds ODDS;person p at a 0 reach 0 throws 0 wants a 1;";
        due("odds 0: a DRAW of 0 is not below it", of(a.replace("ODDS", "0")).years(0, 100, 0), 0);
        due("odds 10: the lower one can't be in the first night", of(a.replace("ODDS", "10")).years(3, 1, 0), 7);
        due("odds 10: it can in the second", of(a.replace("ODDS", "10")).years(3, 2, 0), 12);
        due("from the top down in one night", of("house a floors 2;flight a 1 rise 5 odds 10;flight a 0 rise 7 odds 10;").years(3, 1, 0), 12);
        says("if it is 0, the first one that is gone is BUILT, if it can be");
        // SEED 3 draws 17747, 7107, 10365, 8312: two nights of one flight, the second with a 0 for the building
        String one = "house a floors 1;flight a 0 rise 5 odds 10;heap ";
        due("3 is not 0", of(one + "5;").years(3, 1, 1), 0);
        due("0 in the second night", of(one + "5;").years(3, 2, 1), 1);
        due("the heap is one too small", of(one + "4;").years(3, 2, 1), 0);
        due("nothing is gone", of(one.replace("odds 10", "odds 0") + "5;").years(3, 2, 1), 1);
        // SEED 5 draws 18655, 8457, 10616: one night of two flights, with a 0 for the building
        String other = "house a floors 1;house b floors 1;flight a 0 rise 5 odds 0;flight b 0 rise 6 odds 10;heap ";
        due("the first one that is gone, not the first one", of(other + "6;").years(5, 1, 1), 2);
        due("the heap is one too small for it", of(other + "5;").years(5, 1, 1), 1);
        due("the first of two, though the second one would do", of(other.replace("odds 0", "odds 10") + "5;").years(5, 1, 1), 1);
        due("the first of two can't be: none is built", of(other.replace("rise 5 odds 0", "rise 7 odds 10") + "6;").years(5, 1, 1), 0);
        says("YEARS by a SEED of so many nights (1 to 100), from now on (all is as ahead then)");
        StairGang x = of(a.replace("ODDS", "10") + "heap 3;price high+nights*100;");
        x.night();
        x.steal(1);
        due("from now on: a 0 in night 1", x.years(7, 1, 0), 105);
        due("a hundred nights", x.years(7, 100, 2), 100);
        due("sold is as ahead", x.count(7), 107);
        due("heap is as ahead", x.count(5), 3);
        due("nights are as ahead", x.count(6), 1);
        due("there is as ahead", x.count(8), 1);
        due("nothing more can be undone", x.count(11), 2);
        due("once more", x.years(7, 1, 0), 105);
        says("what is sold by these; flights there at last; how often somebody is CUT OFF, PERSON by PERSON, behind each night");
        StairGang two = of("house a floors 1;flight a 0 rise 5 odds 10;person p at a 0 reach 0 throws 0 wants a 1;"
                + "person q at a 0 reach 5 throws 0 wants a 1;person r at a 1 reach 4 throws 0 wants a 0;");
        due("two in each of 50 nights", two.years(5, 50, 2), 100);
        due("no PEOPLE", of("house a floors 1;flight a 0 rise 5 odds 10;").years(5, 50, 2), 0);
        due("no TOWN", new StairGang().years(5, 100, 1), 0);
        says("YEARS by a SEED (0 to 9999), what 0: sold, 1: flights, 2: CUT OFF; NONE: others");
        StairGang y = of(TWO);
        due("SEED 0", y.years(0, 1, 1) >= 0, true);
        due("SEED 9999", y.years(9999, 100, 1) >= 0, true);
        for (int bad : noneOf(10000)) {
            due("SEED " + bad, bad >= 0 && bad < 10000 || y.years(bad, 1, 0) == -1, true);
        }
        for (int bad : new int[] {Integer.MIN_VALUE, -1, 0, 101, Integer.MAX_VALUE}) {
            due("nights " + bad, y.years(0, bad, 0), -1);
        }
        for (int bad : noneOf(3)) {
            due("what " + bad, y.years(0, 1, bad), -1);
        }
    }

    private static void marks() {
        says("MARKS 0 to 3 hold flights, people, things, the heap, nights, what is sold, the NIGHTS, what is SEEN");
        StairGang x = of(TWO);
        x.mark(0, false);
        told(x, "night;night;");
        x.see(0, 1, true);
        x.go(0, 1);
        x.carry(1, 1, 0);
        x.steal(0);
        x.steal(1);
        x.build(1);
        x.night();
        x.mark(3, false);
        for (int i = 0; i < 2; i++) {
            due("back to 0", x.mark(0, true), true);
            stands(x, 2, 0, 0, 6, 20, 0, 0, 0, 0, 4);
            due("back to 3", x.mark(3, true), true);
            stands(x, 1, 1, 0, 0, 14, 1, 11, 2, 1, 2);
        }
        StairGang v = of(TWO);
        v.mark(2, false);
        v.see(0, 1, true);
        told(v, "steal a 0;");
        v.mark(0, false);
        v.mark(2, true);
        v.see(1, 0, true);
        v.see(0, 1, false);
        told(v, "steal b 0;night;");
        v.mark(1, false);
        due("what is SEEN on 1: sets", v.fits(0), 2);
        due("what is SEEN on 1: none has a 0", v.fits(2), 2);
        due("the NIGHTS on 1", v.judged(2), 6);
        due("back to 0", v.mark(0, true), true);
        due("what is SEEN on 0: all have a 0", v.fits(1), 1);
        due("the NIGHTS on 0", v.judged(2), 5);
        due("back to 1", v.mark(1, true), true);
        due("what is SEEN on 1, once more", v.fits(2), 2);
        due("the NIGHTS on 1, once more", v.judged(2), 6);
        due("lines on 1", v.count(9), 2);
        due("SEEN on 1", v.count(10), 2);
        says("(nothing can be undone when one is gone back to)");
        x.night();
        due("one can be", x.count(11), 1);
        due("laid: one still can be", x.mark(1, false), true);
        due("one still can be", x.count(11), 1);
        due("back", x.mark(1, true), true);
        due("none can be", x.count(11), 0);
        due("undo", x.undo(), false);
        due("nights", x.count(6), 2);
        says("A MARK is laid (back: gone back to): true; false: none such, nothing is on it (back)");
        StairGang y = of(TWO);
        y.night();
        for (int mark : noneOf(4)) {
            due("lay " + mark, y.mark(mark, false), false);
            due("back to " + mark, y.mark(mark, true), false);
        }
        for (int mark = 0; mark < 4; mark++) {
            due("nothing is on " + mark, y.mark(mark, true), false);
        }
        due("what is refused leaves the undoing", y.count(11), 1);
        for (int mark = 0; mark < 4; mark++) {
            due("lay " + mark, y.mark(mark, false), true);
            y.night();
            due("back to the next one", y.mark(mark + 1, true), false);
        }
        for (int mark = 3; mark >= 0; mark--) {
            due("back to " + mark, y.mark(mark, true), true);
            due("nights of " + mark, y.count(6), 1 + mark);
        }
        due("laid over", y.mark(3, false), true);
        due("back to it", y.mark(3, true), true);
        due("nights of it", y.count(6), 1);
        StairGang z = new StairGang();
        z.night();
        due("a MARK without a TOWN", z.mark(0, false), true);
        z.night();
        feed(z, "abc");
        due("back without a TOWN", z.mark(0, true), true);
        due("nights", z.count(6), 1);
        due("the TAPE is not on it", z.count(12), 3);
    }

    private static void stands(StairGang x, int there, int person, int thing, int other, int heap, int nights, int sold, int lines, int seen, int fits) {
        due("there", x.count(8), there);
        due("person", x.person(0, 0), person);
        due("thing 0", x.thing(0), thing);
        due("thing 1", x.thing(1), other);
        due("heap", x.count(5), heap);
        due("nights", x.count(6), nights);
        due("sold", x.count(7), sold);
        due("lines", x.count(9), lines);
        due("SEEN", x.count(10), seen);
        due("fits", x.fits(0), fits);
        due("undo", x.count(11), 0);
    }

    private static void others() {
        StairGang x = of(TWO);
        says("Of a flight, what 0: HOUSE, 1: from which floor, 2: rise, 3: odds, 4: 1 it is there; NONE: others");
        due("the last one", x.flight(1, 0), 1);
        for (int bad : noneOf(2)) {
            due("flight " + bad, x.flight(bad, 0), -1);
        }
        for (int bad : noneOf(5)) {
            due("flight, what " + bad, x.flight(1, bad), -1);
        }
        says("Of a PERSON, what 0: his PLACE, 1: reach, 2: throws, 3: the PLACE he wants; NONE: others");
        for (int bad : noneOf(2)) {
            due("person " + bad, x.person(bad, 0), -1);
        }
        for (int bad : noneOf(4)) {
            due("person, what " + bad, x.person(1, bad), -1);
        }
        says("The PLACE of a THING; NONE: others");
        due("the last one", x.thing(1), 6);
        for (int bad : noneOf(2)) {
            due("thing " + bad, x.thing(bad), -1);
        }
        says("REACH, PLACES as bits; NONE: others");
        for (int bad : noneOf(2)) {
            due("reach " + bad, x.reach(bad), -1);
            due("cost of " + bad, x.cost(bad, 0), -1);
        }
        says("NONE for another what");
        for (int bad : noneOf(13)) {
            due("count " + bad, x.count(bad), -1);
        }
        for (int what = 0; what < 13; what++) {
            due("count " + what, x.count(what) >= 0, true);
        }
    }

    private static String all(StairGang x) {
        StringBuilder s = new StringBuilder();
        for (int what = 0; what < 13; what++) {
            s.append(x.count(what)).append(' ');
        }
        for (int i = 0; i < 2; i++) {
            s.append(x.flight(i, 4)).append(' ').append(x.person(i, 0)).append(' ').append(x.thing(i)).append(' ');
        }
        for (int what = 0; what < 3; what++) {
            s.append(x.judged(what)).append(' ').append(x.fits(what)).append(' ');
        }
        return s.toString();
    }

    /** What is refused, and what is only asked, leaves all as it was. */
    private static void refusedChangesNothing() {
        says("false, NONE: others, it can't be");
        StairGang x = of(TWO);
        told(x, "steal a 0;night;steal a 0;");
        x.steal(0);
        x.night();
        x.see(0, 1, false);
        x.see(1, 7, true);
        x.mark(2, false);
        feed(x, "heap 7;");
        String was = all(x);
        for (int bad : new int[] {-1, 2, Integer.MIN_VALUE, Integer.MAX_VALUE}) {
            x.steal(bad);
            x.build(bad);
            x.go(bad, 0);
            x.carry(bad, 0, 0);
            x.carry(0, bad, 0);
            x.see(bad, 0, true);
            x.mark(bad == 2 ? 4 : bad, false);
            x.mark(bad == 2 ? 4 : bad, true);
        }
        x.steal(0);
        x.build(1);
        x.go(0, 2);
        x.go(0, 1);
        x.carry(0, 0, 1);
        x.carry(0, 1, 0);
        x.see(0, 8, true);
        x.mark(1, true);
        for (int what = 0; what < 3; what++) {
            x.judged(what);
            x.plan(what);
            x.thefts(10, 5, what);
            x.fits(what);
            x.orders(what);
            x.post(0, what);
            x.years(1, 30, what);
        }
        x.reach(0);
        x.cost(0, 7);
        x.cut();
        x.alone(0);
        x.watch();
        restsOf(x, 0, 1, 1, -1);
        x.live(0, 2, 9);
        x.best(0, 9);
        due("all is as it was: " + was + "/ " + all(x), was.equals(all(x)), true);
        due("a night is undone", x.undo(), true);
        due("a theft is undone", x.undo(), true);
        due("nothing else", x.undo(), false);
        due("all are there", x.count(8), 2);
        due("the TAPE is read", x.town(), 0);
        due("heap", x.count(5), 7);
    }
}
