/**
 * The TAPE, the TOWN, the NIGHTS, the E and the FAULTS at their boundaries: each sentence of the document's 'Terms' that
 * names one stands here, and what is due by it.
 */
public final class StairGangTextEdgesTest {
    private static final String[] WORDS = {"house", "floors", "flight", "rise", "odds", "thing", "lifts", "at", "person", "reach",
        "throws", "wants", "hill", "pays", "heap", "walk", "price", "steal", "build", "go", "carry", "night", "not", "and", "or"};
    /** A TOWN and NIGHTS with a blank between any two TOKENS, so that each token can be taken out alone. */
    private static final String TOWN = "house a floors 2 ; house b floors 1 ; flight a 0 rise 5 odds 3 ; thing t lifts 4 at a 1 ; "
            + "person p at a 2 reach 7 throws 3 wants b 1 ; hill h rise 9 pays 8 ; heap 50 ; walk 6 ; "
            + "price high + 2 * ( nights - gone ) < 3 and not 4 or 5 = 6 ;";
    private static final String NIGHTS = "steal a 0 ; build a 0 ; go p b 1 ; carry p t a 1 ; night ;";

    private static String sentence = "";
    private static int wrong = 0;

    public static void main(String[] args) {
        tape();
        tapeIsTaken();
        tokens();
        wordsAndNumbers();
        signs();
        linesOfATown();
        houses();
        flights();
        things();
        people();
        hills();
        onceEach();
        linesOfNights();
        names();
        namesAreUnlike();
        laws();
        depth();
        values();
        theEnd();
        wrongTokens();
        firstAndLeast();
        namesOfNone();
        toldAlready();
        numbersNotAsTold();
        oneTooMany();
        aNewTown();
        aFaultyTown();
        newNights();
        System.out.println(wrong == 0 ? "all edges of the texts hold" : wrong + " edges of the texts do not hold");
        if (wrong != 0) {
            System.exit(1);
        }
    }

    private static void says(String words) {
        sentence = words;
    }

    private static void due(String what, long got, long want) {
        if (got != want) {
            wrong++;
            System.out.println("\"" + sentence + "\": " + what + " answered " + got + ", due is " + want);
        }
    }

    private static void due(String what, boolean got, boolean want) {
        due(what, got ? 1 : 0, want ? 1 : 0);
    }

    private static int feed(StairGang x, String text) {
        int length = 0;
        for (int i = 0; i < text.length(); i += 24) {
            long[] parts = new long[3];
            for (int k = 0; k < 24; k++) {
                int sign = i + k < text.length() ? text.charAt(i + k) : 0;
                parts[k / 8] = parts[k / 8] << 8 | sign;
            }
            length = x.feed(parts[0], parts[1], parts[2]);
        }
        return length;
    }

    private static int town(StairGang x, String text) {
        feed(x, text);
        return x.town();
    }

    private static int nights(StairGang x, String text) {
        feed(x, text);
        return x.nights();
    }

    private static StairGang of(String text) {
        StairGang x = new StairGang();
        due("town " + text, town(x, text), 0);
        return x;
    }

    private static void good(String text) {
        due("town " + text, town(new StairGang(), text), 0);
    }

    private static void bad(String text, int kind, int place) {
        due("town " + text, town(new StairGang(), text), kind + 16 * place);
    }

    /** The FAULT is at what stands behind the mark ^, which is taken out. */
    private static void bad(String text, int kind) {
        int place = text.indexOf('^');
        bad(text.substring(0, place) + text.substring(place + 1), kind, place);
    }

    private static void goodNights(String town, String text) {
        due("nights " + text, nights(of(town), text), 0);
    }

    private static void badNights(String town, String text, int kind) {
        int place = text.indexOf('^');
        due("nights " + text, nights(of(town), text.substring(0, place) + text.substring(place + 1)), kind + 16 * place);
    }

    private static void tape() {
        says("The TAPE has at most 1,000 signs");
        StairGang x = new StairGang();
        due("993 and 7", feed(x, " ".repeat(993) + "heap 7;"), 1000);
        due("one more", feed(x, "!"), 1000);
        due("what is on it", x.town(), 0);
        due("heap", x.count(5), 7);
        due("996 and the first 4 of 7", feed(x, " ".repeat(996) + "heap 8;"), 1000);
        due("signs", x.count(12), 1000);
        due("what was left out is not read", x.town(), 1 + 16 * 1000);
        due("heap stays", x.count(5), 7);
        due("empty again", feed(x, "heap 9;"), 7);
        says("10 and 32 .. 126");
        for (int sign = 0; sign < 256; sign++) {
            boolean fits = sign == 10 || sign >= 32 && sign <= 126;
            due("a byte " + sign + " as the highest of a", new StairGang().feed((long) sign << 56, 0, 0), fits ? 1 : 0);
            due("a byte " + sign + " as the lowest of b", new StairGang().feed(0, sign, 0), fits ? 1 : 0);
            due("a byte " + sign + " in the midst of c", new StairGang().feed(0, 0, (long) sign << 24), fits ? 1 : 0);
        }
        StairGang y = new StairGang();
        due("left out, not put as a blank: he ap", town(y, "he\tap\r 1" + (char) 127 + "2" + (char) 200 + ";"), 0);
        due("heap 12", y.count(5), 12);
        says("Up to 24 signs come behind the TAPE: the bytes of a, b, c, of each the highest first");
        StairGang z = new StairGang();
        due("a", z.feed(0x6865617020202020L, 0x2020202020202020L, 0x20202020202020L << 8 | '3'), 24);
        due("b", z.feed(0x343b000000000000L, 0, 0x77616c6b20363b0aL), 34);
        due("heap 34; walk 6;", z.town(), 0);
        due("heap", z.count(5), 34);
        due("nothing comes", z.feed(0, 0, 0), 0);
        due("24 of 24", z.feed(0x2020202020202020L, 0x2020202020202020L, 0x2020202020202020L), 24);
    }

    private static void tapeIsTaken() {
        says("what reads it takes it: it is empty then");
        StairGang x = of("heap 3;");
        due("signs", x.count(12), 0);
        due("a FAULT", town(x, "heap"), 1 + 16 * 4);
        due("signs behind a FAULT", x.count(12), 0);
        due("NIGHTS", nights(x, "night;"), 0);
        due("signs behind NIGHTS", x.count(12), 0);
        due("NIGHTS with a FAULT", nights(x, "night"), 1 + 16 * 5);
        due("signs behind them", x.count(12), 0);
        due("the heap is still told", x.count(5), 3);
        due("nothing is read as an empty TOWN", x.town(), 0);
        due("it has no heap", x.count(5), 0);
        due("nothing is read as no NIGHTS", x.nights(), 0);
    }

    private static void tokens() {
        says("TOKENS, each as long as can be");
        good("heap12;");
        bad("heap 1 ^2;", 1);
        bad("^heapwalk 1;", 1);
        bad("house a floors 1;flight ^ab 0 rise 1 odds 0;", 2);
        bad("price ^nothigh;", 1);
        good("price not1and 1or0;");
        bad("price 1 ^andgone;", 1);
        good("house a floors 1;thing b lifts 1at a 1;");
        due("a night is no nights", nights(new StairGang(), "nights;"), 1);
        says("blanks (10, 32) between where one likes");
        good("");
        good(" ");
        good("\n");
        good("\n \n house\na \n floors  \n\n3\n;\n \nheap\n1 \n;\n \n");
        good("house a floors 3;flight a 0rise 1odds 1;heap5;walk6;price(high)<(2);");
        bad("^he ap 1;", 1);
        bad("heap 1;walk 1 ^1;", 1);
        due("blanks alone are no NIGHTS", nights(new StairGang(), " \n "), 0);
    }

    private static void wordsAndNumbers() {
        says("WORDS (letters a .. z, 8 at most)");
        good("house a floors 1;house z floors 1;house abcdefgh floors 1;house zzzzzzzz floors 1;house abcdefgi floors 1;");
        bad("house ^abcdefghi floors 1;", 1);
        bad("house abcdefgh floors 1;flight ^abcdefghi 0 rise 1 odds 0;", 1);
        bad("house abcdefgh floors 1;house ^abcdefghh floors 1;", 1);
        bad("house ^abcdefghijklmnopqrstuvwxyzabcdefghijklmnopqrstuvwxyz floors 1;", 1);
        bad("^" + "p".repeat(1000), 1);
        bad("house ^A floors 1;", 1);
        bad("house ^Z floors 1;", 1);
        bad("house a^B floors 1;", 1);
        bad("house ^` floors 1;", 1);
        bad("house ^{ floors 1;", 1);
        bad("house ^@ floors 1;", 1);
        bad("house a^_b floors 1;", 1);
        bad("house a^1 floors 1;", 1);
        says("NUMBERS (1 to 4 digits");
        for (String number : new String[] {"9", "09", "009", "0009"}) {
            due("heap " + number, of("heap " + number + ";").count(5), 9);
        }
        bad("heap ^00009;", 1);
        bad("heap ^00000;", 1);
        bad("heap ^9999;", 4);
        bad("heap ^10000;", 1);
        good("price 9999;");
        bad("price ^10000;", 1);
        bad("price ^99999999999999999999;", 1);
        bad("heap ^" + "0".repeat(994) + "1", 1);
        bad("heap ^-1;", 1);
        bad("heap ^+1;", 1);
        bad("heap ^/;", 1);
        bad("heap ^:;", 1);
        bad("heap 1^.5;", 1);
        says("a letter may stand right behind)");
        StairGang x = of("house a floors 2;flight a 0rise 5odds 6;thing t lifts 4at a 1;person p at a 1reach 2throws 3wants a 2;");
        due("rise", x.flight(0, 2), 5);
        due("odds", x.flight(0, 3), 6);
        due("reach", x.person(0, 1), 2);
        due("throws", x.person(0, 2), 3);
        bad("heap 1^a;", 1);
    }

    private static void signs() {
        says("the signs ( ) < = + - * ;  All else (..) is none");
        for (char sign = 32; sign < 127; sign++) {
            String text = "price 1" + sign + "1;";
            boolean joins = "<=+-*".indexOf(sign) >= 0 || sign >= '0' && sign <= '9';
            boolean parts = sign == ' ' || sign == ';';
            if (joins) {
                good(text);
            } else {
                bad(text, 1, parts ? 8 : 7);
            }
            boolean begins = sign == ' ' || sign >= 'a' && sign <= 'z';
            if (!begins) {
                bad(sign + "heap 1;", 1, 0);
            }
        }
        good("price (1);");
        bad("heap 1^,walk 1;", 1);
        bad("price 1^>2;", 1);
        bad("price 1^/2;", 1);
    }

    private static void linesOfATown() {
        says("TOWN: any number of");
        StairGang x = of("");
        for (int what = 0; what < 13; what++) {
            due("an empty TOWN: count " + what, x.count(what), 0);
        }
        good("price high;walk 1;heap 2;hill h rise 1 pays 1;house a floors 1;person p at a 0 reach 0 throws 0 wants a 0;house b floors 2;"
                + "thing t lifts 1 at b 2;flight b 1 rise 1 odds 0;");
        bad("^;", 1);
        bad("heap 1;^;", 1);
        bad("^a", 1);
        bad("^1", 1);
        for (String word : WORDS) {
            boolean begins = " house flight thing person hill heap walk price ".contains(" " + word + " ");
            bad(begins ? word + "^" : "^" + word, 1);
        }
    }

    private static String housesTold(int many) {
        StringBuilder s = new StringBuilder();
        for (int i = 0; i < many; i++) {
            s.append("house ").append((char) ('z' - i)).append(" floors 5;");
        }
        return s.toString();
    }

    private static void houses() {
        says("house: 5 at most, numbered as told");
        StairGang x = of(housesTold(5) + "thing t lifts 1 at v 5;thing u lifts 1 at z 5;");
        due("five", x.count(0), 5);
        due("the fifth, floor 5", x.thing(0), 29);
        due("the first, floor 5", x.thing(1), 5);
        bad(housesTold(5) + "^house u floors 5;", 5);
        bad(housesTold(5) + "^house", 5);
        says("floors 1 to 5 above the street (floor 0)");
        bad("house a floors ^0;", 4);
        for (int floors = 1; floors <= 5; floors++) {
            good("house a floors " + floors + ";thing t lifts 1 at a " + floors + ";thing u lifts 1 at a 0;");
            bad("house a floors " + floors + ";thing t lifts 1 at a ^" + (floors + 1) + ";", 4);
        }
        bad("house a floors ^6;", 4);
        bad("house a floors ^9999;", 4);
    }

    /** Ten flights of two HOUSES, the last HOUSE and the highest floor first. */
    private static String tenFlights(String rest) {
        StringBuilder s = new StringBuilder("house a floors 5;house b floors 5;house c floors 5;");
        for (int i = 0; i < 10; i++) {
            s.append("flight ").append("ba".charAt(i / 5)).append(' ').append(4 - i % 5).append(rest);
        }
        return s.toString();
    }

    private static void flights() {
        says("flight: of a HOUSE told");
        bad("flight ^a 0 rise 1 odds 1;house a floors 1;", 2);
        says("from a floor (0 to floors less 1) to the next one");
        for (int floors = 1; floors <= 5; floors++) {
            good("house a floors " + floors + ";flight a " + (floors - 1) + " rise 1 odds 1;");
            bad("house a floors " + floors + ";flight a ^" + floors + " rise 1 odds 1;", 4);
        }
        bad("house a floors 5;house b floors 5;flight a ^6 rise 1 odds 1;", 4);
        bad("house a floors 5;flight a ^9999 rise 1 odds 1;", 4);
        says("each once");
        bad("house a floors 2;flight a 1 rise 1 odds 1;flight a 0 rise 1 odds 1;flight a ^1 rise 1 odds 1;", 3);
        good("house a floors 2;house b floors 2;flight a 1 rise 1 odds 1;flight b 1 rise 1 odds 1;");
        says("10 at most, numbered as told");
        StairGang x = of(tenFlights(" rise 1 odds 0;"));
        due("ten", x.count(1), 10);
        for (int i = 0; i < 10; i++) {
            due("HOUSE of flight " + i, x.flight(i, 0), 1 - i / 5);
            due("floor of flight " + i, x.flight(i, 1), 4 - i % 5);
        }
        bad(tenFlights(" rise 1 odds 0;") + "^flight c 0 rise 1 odds 1;", 5);
        bad(tenFlights(" rise 1 odds 0;") + "^flight", 5);
        says("rise 1 to 40, odds 0 to 10");
        String a = "house a floors 1;flight a 0 rise ";
        bad(a + "^0 odds 1;", 4);
        good(a + "1 odds 1;");
        good(a + "40 odds 1;");
        bad(a + "^41 odds 1;", 4);
        good(a + "1 odds 0;");
        good(a + "1 odds 10;");
        bad(a + "1 odds ^11;", 4);
    }

    private static void things() {
        String a = "house a floors 3;thing ";
        says("thing: 4 at most, numbered as told");
        String four = a + "t lifts 1 at a 3;thing u lifts 1 at a 2;thing v lifts 1 at a 1;thing w lifts 1 at a 0;";
        StairGang x = of(four);
        due("four", x.count(2), 4);
        for (int i = 0; i < 4; i++) {
            due("THING " + i, x.thing(i), 3 - i);
        }
        bad(four + "^thing x lifts 1 at a 0;", 5);
        bad(four + "^thing", 5);
        says("lifts 1 to 40");
        bad(a + "t lifts ^0 at a 0;", 4);
        good(a + "t lifts 1 at a 0;");
        good(a + "t lifts 40 at a 0;");
        bad(a + "t lifts ^41 at a 0;", 4);
        says("at a HOUSE told, a floor of it");
        bad("thing t lifts 1 at ^a 0;house a floors 3;", 2);
        good(a + "t lifts 1 at a 3;");
        bad(a + "t lifts 1 at a ^4;", 4);
    }

    private static void people() {
        String a = "house a floors 3;person ";
        says("person: 5 at most, numbered as told");
        StringBuilder s = new StringBuilder("house a floors 3;");
        for (int i = 0; i < 5; i++) {
            s.append("person ").append((char) ('z' - i)).append(" at a 0 reach ").append(40 - i).append(" throws 0 wants a 0;");
        }
        String five = s.toString();
        StairGang x = of(five);
        due("five", x.count(3), 5);
        for (int i = 0; i < 5; i++) {
            due("PERSON " + i, x.person(i, 1), 40 - i);
        }
        bad(five + "^person p at a 0 reach 0 throws 0 wants a 0;", 5);
        bad(five + "^person", 5);
        says("at a HOUSE told, a floor");
        bad("person p at ^a 0 reach 0 throws 0 wants a 0;", 2);
        good(a + "p at a 3 reach 0 throws 0 wants a 0;");
        bad(a + "p at a ^4 reach 0 throws 0 wants a 0;", 4);
        says("reach 0 to 40, throws 0 to 6");
        good(a + "p at a 0 reach 0 throws 0 wants a 0;");
        good(a + "p at a 0 reach 40 throws 6 wants a 0;");
        bad(a + "p at a 0 reach ^41 throws 6 wants a 0;", 4);
        bad(a + "p at a 0 reach 40 throws ^7 wants a 0;", 4);
        says("wants a HOUSE told, a floor");
        bad(a + "p at a 0 reach 0 throws 0 wants ^b 0;house b floors 1;", 2);
        good(a + "p at a 0 reach 0 throws 0 wants a 3;");
        bad(a + "p at a 0 reach 0 throws 0 wants a ^4;", 4);
        bad("house b floors 5;" + a + "p at b 5 reach 0 throws 0 wants a ^4;", 4);
    }

    private static void hills() {
        says("hill: 4 at most, numbered as told");
        String four = "hill d rise 1 pays 0;hill c rise 1 pays 1;hill b rise 1 pays 2;hill a rise 1 pays 3;";
        due("four", of(four).count(4), 4);
        bad(four + "^hill e rise 1 pays 1;", 5);
        bad(four + "^hill", 5);
        StairGang x = of(four + "house h floors 1;flight h 0 rise 1 odds 0;");
        due("stolen", x.steal(0), 1);
        due("the last HILL pays most", x.orders(0), 3);
        due("it is HILL 3", x.orders(2), 3);
        says("rise 1 to 99, pays 0 to 99");
        bad("hill a rise ^0 pays 0;", 4);
        good("hill a rise 1 pays 0;");
        good("hill a rise 99 pays 99;");
        bad("hill a rise ^100 pays 99;", 4);
        bad("hill a rise 99 pays ^100;", 4);
    }

    private static int walkOf(String told) {
        return of("house a floors 1;house b floors 1;person p at a 0 reach 0 throws 0 wants a 0;" + told).cost(0, 6);
    }

    private static int soldBy(String told) {
        return of("house a floors 1;flight a 0 rise 7 odds 0;" + told).steal(0);
    }

    private static void onceEach() {
        says("heap 0 to 999 (0)");
        due("heap 0", of("heap 0;").count(5), 0);
        due("heap 999", of("heap 999;").count(5), 999);
        due("none told", of("walk 9;").count(5), 0);
        due("not the one of the TOWN before", twoTowns("heap 9;", "walk 9;").count(5), 0);
        bad("heap ^1000;", 4);
        says("walk 0 to 60 (5)");
        due("walk 0", walkOf("walk 0;"), 0);
        due("walk 60", walkOf("walk 60;"), 60);
        due("none told", walkOf(""), 5);
        bad("walk ^61;", 4);
        StairGang x = twoTowns("walk 9;", "house a floors 1;house b floors 1;person p at a 0 reach 0 throws 0 wants a 0;");
        due("not the one of the TOWN before", x.cost(0, 6), 5);
        says("heap, walk, price: once each");
        bad("heap 0;^heap 0;", 3);
        bad("heap 5;walk 5;^heap", 3);
        bad("walk 5;^walk 5;", 3);
        bad("walk 0;heap 0;^walk", 3);
        bad("price high;^price high;", 3);
        bad("price 0;walk 0;^price", 3);
        says("Without price: high");
        due("none told", soldBy(""), 7);
        due("told", soldBy("price 3;"), 3);
        StairGang y = twoTowns("price 3;", "house a floors 1;flight a 0 rise 7 odds 0;");
        due("not the one of the TOWN before", y.steal(0), 7);
        StairGang z = twoTowns("price not high;", "price not not 5+not 3;");
        for (String law : new String[] {"", "price high;", "price 7;", "price(high);"}) {
            due("town", town(z, "house a floors 1;flight a 0 rise 7 odds 0;" + law), 0);
            due("nor one of those ahead of it: " + law, z.steal(0), 7);
            due("town", town(z, "price not high and not 3*not gone;"), 0);
        }
    }

    private static StairGang twoTowns(String first, String second) {
        StairGang x = of(first);
        due("town " + second, town(x, second), 0);
        return x;
    }

    private static void linesOfNights() {
        String t = "house a floors 2;house b floors 1;flight a 1 rise 1 odds 1;thing t lifts 1 at a 0;"
                + "person p at a 0 reach 9 throws 0 wants a 1;";
        says("NIGHTS: any number of .. 40 lines at most");
        for (int lines : new int[] {0, 1, 39, 40}) {
            StairGang x = of(t);
            due(lines + " lines", nights(x, "steal a 1;".repeat(lines)), 0);
            due(lines + " lines: how many", x.count(9), lines);
        }
        String forty = "night;".repeat(40);
        goodNights(t, forty + " \n");
        badNights(t, forty + "^steal a 1;", 5);
        badNights(t, forty + "^build", 5);
        badNights(t, forty + "^go", 5);
        badNights(t, forty + "^carry", 5);
        badNights(t, forty + " ^night;", 5);
        badNights(t, forty + "^nights;", 1);
        badNights(t, forty + "^house", 1);
        badNights(t, forty + "^;", 1);
        badNights(t, forty + "^7", 1);
        says("(a HOUSE, the flight from a floor)");
        goodNights(t, "steal a 1;build a 1;");
        badNights(t, "steal a ^0;", 4);
        badNights(t, "build a ^2;", 4);
        badNights(t, "steal b ^0;", 4);
        says("(a PERSON, a HOUSE, a floor)");
        goodNights(t, "go p a 0;go p a 2;go p b 1;");
        badNights(t, "go p a ^3;", 4);
        badNights(t, "go p b ^2;", 4);
        says("(a PERSON, a THING, a HOUSE, a floor)");
        goodNights(t, "carry p t a 0;carry p t a 2;carry p t b 1;");
        badNights(t, "carry p t a ^3;", 4);
        badNights(t, "carry p t b ^2;", 4);
        for (String word : WORDS) {
            boolean begins = " steal build go carry night ".contains(" " + word + " ");
            badNights(t, begins ? word + "^" : "^" + word, 1);
        }
    }

    private static void names() {
        says("A NAME is another WORD than house, floors, .. or");
        String t = "house a floors 2;flight a 1 rise 1 odds 1;thing t lifts 1 at a 0;person p at a 0 reach 9 throws 0 wants a 1;";
        for (String word : WORDS) {
            bad("house ^" + word + " floors 1;", 1);
            bad("thing ^" + word + " lifts 1", 1);
            bad("person ^" + word + " at", 1);
            bad("hill ^" + word + " rise 1", 1);
            bad("flight ^" + word + " 0", 1);
            bad("thing t lifts 1 at ^" + word, 1);
            bad("house a floors 1;person p at a 0 reach 0 throws 0 wants ^" + word, 1);
            badNights(t, "steal ^" + word, 1);
            badNights(t, "build ^" + word, 1);
            badNights(t, "go ^" + word, 1);
            badNights(t, "go p ^" + word, 1);
            badNights(t, "carry ^" + word, 1);
            badNights(t, "carry p ^" + word, 1);
            badNights(t, "carry p t ^" + word, 1);
        }
        String facts = "house high floors 1;flight high 0 rise 8 odds 0;thing nights lifts 1 at high 0;"
                + "person gone at high 0 reach 0 throws 0 wants high 1;hill floor rise 1 pays 1;price high;";
        StairGang x = of(facts);
        due("a fact stays a fact", x.steal(0), 8);
        due("facts as NAMES of NIGHTS", nights(x, "steal high 0;carry gone nights high 0;go gone high 1;"), 0);
        good("hill houses rise 1 pays 1;hill rises rise 1 pays 1;hill o rise 1 pays 1;hill hous rise 1 pays 1;");
    }

    private static void namesAreUnlike() {
        says("no two (HOUSES, THINGS, PEOPLE, HILLS) are alike");
        String[] lines = {"house NAME floors 1;", "thing NAME lifts 1 at q 0;", "person NAME at q 0 reach 0 throws 0 wants q 0;",
            "hill NAME rise 1 pays 1;"};
        for (String one : lines) {
            for (String other : lines) {
                bad("house q floors 1;" + one.replace("NAME", "n") + other.replace("NAME", "^n"), 3);
                good("house q floors 1;" + one.replace("NAME", "n") + other.replace("NAME", "nn"));
            }
            bad("house q floors 1;" + one.replace("NAME", "^q"), 3);
        }
    }

    /** With high 6, nights 3, gone 2. */
    private static void price(String law, int want) {
        StairGang x = of("house a floors 4;flight a 0 rise 6 odds 0;flight a 1 rise 1 odds 0;flight a 2 rise 1 odds 0;price " + law + ";");
        x.steal(2);
        x.night();
        x.steal(1);
        x.night();
        x.night();
        due("price " + law, x.steal(0), want);
    }

    private static void laws() {
        says("E: TEST { and TEST or or TEST }, from the left");
        price("1 or 1 and 0", 0);
        price("0 and 1 or 1", 1);
        price("1 or 0 and 0 or 0 and 1", 0);
        bad("price ^and 1;", 1);
        bad("price 1 and^;", 1);
        bad("price 1 or ^or 1;", 1);
        says("TEST: SUM, or SUM < SUM, or SUM = SUM");
        price("1<2 and 2=2", 1);
        price("2+2<2*2", 0);
        bad("price 1<2^<3;", 1);
        bad("price 1=1^=1;", 1);
        bad("price 1<2^=1;", 1);
        bad("price ^<2;", 1);
        bad("price 1<^;", 1);
        good("price (1<2)=1;");
        says("SUM: PRODUCT { + or - PRODUCT }");
        price("9-3-2+1", 5);
        bad("price ^-1;", 1);
        bad("price 1+^+1;", 1);
        bad("price 1-^;", 1);
        says("PRODUCT: PART { * PART }");
        price("2+3*4-1", 13);
        price("2*3*4", 24);
        bad("price ^*1;", 1);
        bad("price 1*^*1;", 1);
        says("PART: a NUMBER, a fact, not PART, ( E )");
        price("not 0*7", 7);
        price("not(0*7)*2", 2);
        price("high*100+nights*10+gone", 632);
        bad("price (^);", 1);
        bad("price (1^;", 1);
        bad("price 1^);", 1);
        bad("price 1 ^not 1;", 1);
        bad("price 1 ^(2);", 1);
        bad("price high ^gone;", 1);
        bad("price not^;", 1);
        bad("price ^;", 1);
        bad("price ^night;", 1);
        bad("price ^rise;", 1);
        bad("price ^floors;", 1);
        String longest = "price 1" + "+1".repeat(495) + ";";
        due("as long as the TAPE bears", longest.length(), 998);
        due("the longest sum", soldBy("price 1" + "+1".repeat(450) + ";"), 451);
        good(longest);
        good("price 1" + " or 1".repeat(198) + ";");
    }

    private static void depth() {
        says("no PART lies within 5 of not and ( )");
        String[] parts = {"1", "high", "not 1", "(1)"};
        for (int deep = 0; deep <= 6; deep++) {
            for (int kinds = 0; kinds < 1 << deep; kinds++) {
                StringBuilder open = new StringBuilder();
                StringBuilder close = new StringBuilder();
                int fifth = 0;
                for (int i = 0; i < deep; i++) {
                    fifth = i == 5 ? open.length() : fifth;
                    boolean not = (kinds >> i & 1) == 1;
                    open.append(not ? "not " : "(");
                    close.insert(0, not ? "" : ")");
                }
                fifth = deep == 5 ? open.length() : fifth;
                for (String part : parts) {
                    int inner = part.length() > 1 && !part.equals("high") ? 1 : 0;
                    String law = "price " + open + part + close + ";";
                    if (deep + inner < 5) {
                        good(law);
                    } else if (deep >= 5) {
                        bad(law, 5, 6 + fifth);
                    } else {
                        bad(law, 5, 6 + open.length() + part.indexOf('1'));
                    }
                }
            }
        }
        good("price ((((1))))+((((2))))*not not not not 3<((not not 4))and(((not 5)));");
        bad("price ((((1))))+(((((^2)))));", 5);
        bad("price 1+((((2*3+(^4)))));", 5);
        good("price ((((1+2*3<4 and 5 or 6))));");
        bad("price (((((^;", 1);
        bad("price (((((^)", 1);
        bad("price (((((^", 1);
        bad("price (((((^+", 1);
        bad("price (((((^?", 1);
        bad("price (((((^and", 1);
        bad("price (((((^rise", 1);
        bad("price (((((^10000", 1);
        bad("price not not not not not^;", 1);
        bad("price (((((^" + "(".repeat(900) + "1", 5);
        bad("price not not not not not ^" + "not ".repeat(200) + "1", 5);
    }

    private static void values() {
        says("Of not, and, or, < and = comes 1 or 0; what is not 0 is so");
        price("(not 0)*7", 7);
        price("(not 5)*7+2", 2);
        price("(not(0-5))*7+2", 2);
        price("(3 and 4)*7", 7);
        price("((0-1)and(0-2))*7", 7);
        price("(3 and 0)*7+2", 2);
        price("(0 or 4)*7", 7);
        price("(0 or(0-4))*7", 7);
        price("(0 or 0)*7+2", 2);
        price("(2<3)*7", 7);
        price("(3<3)*7+2", 2);
        price("(4<3)*7+2", 2);
        price("(0-1<0)*7", 7);
        price("(3=3)*7", 7);
        price("(3=4)*7+2", 2);
        says("ints wrap");
        price("8192*8192*32<0", 1);
        price("0<8192*8192*32-1", 1);
        price("8192*8192*64=0", 1);
        price("8192*8192*32+8192*8192*32=0", 1);
        price("9999*9999*9999<0", 1);
        price("9999*9999*50<0", 0);
        price("9999*9999*30<0", 1);
        says("Facts: high (the flight's rise), nights (that have passed), gone (how many flights are stolen, without this one)");
        StairGang x = of("house a floors 2;flight a 0 rise 9 odds 0;flight a 1 rise 8 odds 0;heap 9;price high*100+nights*10+gone;");
        due("the first theft", x.steal(1), 800);
        x.night();
        due("the second one", x.steal(0), 911);
        x.build(1);
        due("built again: gone 1", x.steal(1), 811);
    }

    private static String[] split(String text) {
        return text.split(" ");
    }

    private static String joined(String[] tokens, int many) {
        StringBuilder s = new StringBuilder();
        for (int i = 0; i < many; i++) {
            s.append(i == 0 ? "" : " ").append(tokens[i]);
        }
        return s.toString();
    }

    private static int read(boolean nights, String text) {
        if (!nights) {
            return town(new StairGang(), text);
        }
        return nights(of(TOWN), text);
    }

    private static void theEnd() {
        says("the end being one at the text's length");
        for (int kind = 0; kind < 2; kind++) {
            String[] tokens = split(kind == 0 ? TOWN : NIGHTS);
            for (int many = 0; many <= tokens.length; many++) {
                boolean whole = many == 0 || tokens[many - 1].equals(";");
                String text = joined(tokens, many);
                due("cut: " + text, read(kind == 1, text), whole ? 0 : 1 + 16 * text.length());
                text += " \n  ";
                due("cut, blanks behind: " + text, read(kind == 1, text), whole ? 0 : 1 + 16 * text.length());
            }
        }
        bad(" ".repeat(996) + "heap^", 1);
    }

    /** Each token, one by one, is made one that can't stand there. */
    private static void wrongTokens() {
        says("1 it is none, or can't stand there");
        String[] others = {"?", "abcdefghi", "12345", ";", ")", "floors", "or"};
        for (int kind = 0; kind < 2; kind++) {
            String[] tokens = split(kind == 0 ? TOWN : NIGHTS);
            for (int at = 0; at < tokens.length; at++) {
                String ahead = joined(tokens, at);
                int place = at == 0 ? 0 : ahead.length() + 1;
                boolean inLaw = ahead.contains("price");
                for (String other : others) {
                    boolean may = other.equals(tokens[at]) || inLaw && (other.equals(";") || other.equals(")") || other.equals("or"));
                    if (!may) {
                        String[] changed = tokens.clone();
                        changed[at] = other;
                        String text = joined(changed, tokens.length);
                        due(text, read(kind == 1, text), 1 + 16 * place);
                    }
                }
            }
        }
        bad("house ^7 floors 1;", 1);
        bad("house a ^b floors 1;", 1);
        bad("house a floors ^a;", 1);
        bad("house a floors 1 ^1;", 1);
        bad("house a floors 1 ^house b floors 1;", 1);
    }

    private static void firstAndLeast() {
        says("of the first token from the left that is wrong the least");
        bad("house a floors ^9;flight q 9 rise 99 odds 99;?", 4);
        bad("house a floors 1;flight ^q 9 rise 99 odds 99;?", 2);
        bad("house a floors 1;flight a ^9 rise 99 odds 99;?", 4);
        bad("house a floors 1;flight a 0 rise ^99 odds 99;?", 4);
        bad("house a floors 1;house ^a floors 9;?", 3);
        bad("heap 1;^heap ?", 3);
        bad("heap ^?;heap 1;", 1);
        bad("house a floors 1;house ^house floors 1;", 1);
        bad("house a floors 1;flight ^flight 0 rise 1 odds 1;", 1);
        bad(housesTold(5) + "^floors", 1);
        bad(housesTold(5) + "^house z floors 9;", 5);
        bad("house a floors 1;thing ^a lifts 99 at b 9;", 3);
        bad("price (((((^;", 1);
        badNights(TOWN, "steal ^q 9;", 2);
        badNights(TOWN, "go ^q q 9;", 2);
        badNights(TOWN, "go p ^q 9;", 2);
        badNights(TOWN, "carry ^t p q 9;", 2);
        badNights(TOWN, "night;".repeat(40) + "^steal q 9;", 5);
    }

    private static void namesOfNone() {
        says("2 a NAME of no HOUSE (behind flight, at, wants, steal, build, the second of go, the third of carry)");
        String t = "house a floors 2;house b floors 1;flight a 0 rise 1 odds 1;thing t lifts 1 at a 0;hill h rise 1 pays 1;"
                + "person p at a 0 reach 9 throws 0 wants a 1;";
        for (String name : new String[] {"p", "t", "h", "q", "aa", "high"}) {
            bad(t + "flight ^" + name + " 0 rise 1 odds 1;", 2);
            bad(t + "thing n lifts 1 at ^" + name + " 0;", 2);
            bad(t + "person n at ^" + name + " 0 reach 0 throws 0 wants a 0;", 2);
            bad(t + "person n at a 0 reach 0 throws 0 wants ^" + name + " 0;", 2);
            badNights(t, "steal ^" + name + " 0;", 2);
            badNights(t, "build ^" + name + " 0;", 2);
            badNights(t, "go p ^" + name + " 0;", 2);
            badNights(t, "carry p t ^" + name + " 0;", 2);
        }
        bad(t + "thing n lifts 1 at ^n 0;", 2);
        bad(t + "person n at ^n 0 reach 0 throws 0 wants a 0;", 2);
        bad(t + "person n at a 0 reach 0 throws 0 wants ^n 0;", 2);
        says("of no PERSON (behind go, carry)");
        for (String name : new String[] {"a", "t", "h", "q", "pp", "gone"}) {
            badNights(t, "go ^" + name + " a 0;", 2);
            badNights(t, "carry ^" + name + " t a 0;", 2);
        }
        says("of no THING (the second of carry) told");
        for (String name : new String[] {"a", "p", "h", "q", "tt", "nights"}) {
            badNights(t, "carry p ^" + name + " a 0;", 2);
        }
        says("told");
        due("no TOWN: no HOUSE", nights(new StairGang(), "steal a 0;"), 2 + 16 * 6);
        due("no TOWN: no PERSON", nights(new StairGang(), "go p a 0;"), 2 + 16 * 3);
        StairGang x = twoTowns(t, "house c floors 1;");
        due("a HOUSE of the TOWN before", nights(x, "steal a 0;"), 2 + 16 * 6);
        due("a HOUSE of a TOWN that had a FAULT", town(x, "house d floors 1;flight d 0 rise 1 odds 1;?"), 1 + 16 * 42);
        due("it is not told", nights(x, "steal d 0;"), 2 + 16 * 6);
        due("nor again told by the next one", town(x, "house d floors 1;"), 0);
    }

    private static void toldAlready() {
        says("3 a NAME told already");
        bad("house a floors 1;house ^a floors 1;", 3);
        bad("hill a rise 1 pays 1;house ^a floors 1;", 3);
        bad("hill a rise 1 pays 1;hill b rise 1 pays 1;hill c rise 1 pays 1;hill d rise 1 pays 1;house ^d floors 1;", 3);
        bad(housesTold(5) + "hill ^v rise 1 pays 1;", 3);
        good("house a floors 1;flight a 0 rise 1 odds 1;thing b lifts 1 at a 0;person c at a 0 reach 0 throws 0 wants a 0;hill d rise 1 pays 1;");
        says("the NUMBER of a flight told already");
        bad("house a floors 5;flight a 4 rise 1 odds 1;flight a ^4 rise 1 odds 1;", 3);
        bad("house a floors 5;flight a 0 rise 1 odds 1;flight a ^0000?", 3);
        good("house a floors 5;flight a 4 rise 1 odds 1;flight a 3 rise 1 odds 1;");
        says("heap, walk, price a second time");
        bad("heap 1;^heap 1;", 3);
        bad("walk 1;^walk 1;", 3);
        bad("price 1;^price 1;", 3);
    }

    private static void numbersNotAsTold() {
        says("4 a NUMBER that is not as told (a floor the HOUSE has not");
        bad("house a floors 1;house b floors 5;thing t lifts 1 at a ^2;", 4);
        bad("house a floors 1;thing t lifts 1 at a ^9999;", 4);
        bad("house a floors 1;person p at a ^2 reach 0 throws 0 wants a 0;", 4);
        bad("house a floors 1;person p at a 0 reach 0 throws 0 wants a ^6;", 4);
        badNights("house a floors 1;person p at a 0 reach 0 throws 0 wants a 0;", "go p a ^2;", 4);
        badNights("house a floors 1;house b floors 5;person p at a 0 reach 0 throws 0 wants a 0;", "go p a ^6;", 4);
        says("of steal, build one from which no flight is told)");
        String t = "house a floors 5;house b floors 5;flight a 2 rise 1 odds 1;flight b 0 rise 1 odds 1;";
        for (int floor = 0; floor < 9; floor++) {
            if (floor == 2) {
                goodNights(t, "steal a 2;build a 2;");
            } else {
                badNights(t, "steal a ^" + floor + ";", 4);
                badNights(t, "build a ^" + floor + ";", 4);
            }
        }
        badNights(t, "steal a ^9999;", 4);
    }

    private static String fullTown() {
        StringBuilder s = new StringBuilder(tenFlights(" rise 1 odds 0;").replace("house c floors 5;", "house hc floors 5;")
                .replace("house a ", "house ha ").replace("house b ", "house hb ").replace("flight ", "flight h"));
        s.append("house hd floors 1;house he floors 1;");
        for (char c = 'a'; c <= 'e'; c++) {
            s.append("person p").append(c).append(" at ha 0 reach 0 throws 0 wants ha 0;");
        }
        for (char c = 'a'; c <= 'd'; c++) {
            s.append("hill l").append(c).append(" rise 1 pays 0;thing t").append(c).append(" lifts 1 at ha 0;");
        }
        return s + "heap 999;";
    }

    private static void oneTooMany() {
        says("5 one too many: the words house, person of a sixth, flight of an eleventh, thing, hill of a fifth");
        bad(housesTold(5) + "heap 1;^house", 5);
        bad(tenFlights(" rise 1 odds 0;") + "heap 1;^flight", 5);
        bad("hill d rise 1 pays 0;hill c rise 1 pays 1;hill b rise 1 pays 2;hill a rise 1 pays 3;heap 1;^hill", 5);
        says("5 at most .. 10 at most .. 4 at most .. 5 at most .. 4 at most");
        StairGang full = of(fullTown());
        counts(full, 5, 10, 4, 5, 4, 999, 0, 0, 10, 0, 0, 0, 0);
        due("each by its NAME", nights(full, "go pa ha 1;go pb hb 1;go pc hc 1;go pd hd 1;go pe he 1;carry pa ta ha 0;carry pb tb ha 0;"
                + "carry pc tc ha 0;carry pd td ha 0;steal ha 4;steal hb 4;"), 0);
        badNights(fullTown(), "go ^la ha 0;", 2);
        badNights(fullTown(), "go ^ta ha 0;", 2);
        badNights(fullTown(), "carry pa ^pa ha 0;", 2);
        badNights(fullTown(), "steal ^ta 0;", 2);
        bad(fullTown() + "^hill", 5);
        bad(fullTown() + "^house", 5);
        bad(fullTown() + "^thing", 5);
        bad(fullTown() + "^person", 5);
        bad(fullTown() + "^flight", 5);
        bad(fullTown() + "^heap", 3);
        good(fullTown() + "walk 60;price 0;");
        says("the first word of a 41st line of NIGHTS");
        StairGang x = of("heap 1;");
        due("41 lines", nights(x, "night;".repeat(41)), 5 + 16 * 240);
        due("none of them are NIGHTS", x.count(9), 0);
        says("not, or a PART, within 5 others");
        bad("price (((((^not 1)))));", 5);
        bad("price (((((^1)))));", 5);
        bad("price (((((^(1))))));", 5);
        bad("price (((((^gone)))));", 5);
    }

    /** All that a new TOWN puts back is as it was not at the beginning. */
    private static StairGang lived() {
        StairGang x = of("house a floors 2;flight a 0 rise 4 odds 1;flight a 1 rise 3 odds 1;thing t lifts 9 at a 0;"
                + "person p at a 0 reach 0 throws 0 wants a 1;heap 9;");
        x.carry(0, 0, 1);
        x.steal(1);
        x.steal(0);
        x.build(1);
        x.night();
        for (int i = 0; i < 4; i++) {
            x.mark(i, false);
        }
        x.see(0, 1, true);
        due("nights", nights(x, "night;steal a 1;"), 0);
        return x;
    }

    private static void counts(StairGang x, int... want) {
        for (int what = 0; what < want.length; what++) {
            due("count " + what, x.count(what), want[what]);
        }
    }

    private static void aNewTown() {
        says("Without a FAULT a TOWN is the TOWN from then on: night 0, all flights are there, people and things where told, the heap as "
                + "told, nothing sold, no NIGHTS, nothing SEEN, nothing can be undone, no MARK is there");
        StairGang x = lived();
        counts(x, 1, 2, 1, 1, 0, 6, 1, 7, 1, 2, 1, 5, 0);
        due("town", town(x, "house a floors 2;flight a 0 rise 4 odds 1;thing t lifts 9 at a 0;person p at a 0 reach 0 throws 0 wants a 1;heap 8;"), 0);
        counts(x, 1, 1, 1, 1, 0, 8, 0, 0, 1, 0, 0, 0, 0);
        due("there", x.flight(0, 4), 1);
        due("person", x.person(0, 0), 0);
        due("thing", x.thing(0), 0);
        due("undo", x.undo(), false);
        due("judged", x.judged(2), 0);
        due("fits", x.fits(0), 2);
        for (int i = 0; i < 4; i++) {
            due("MARK " + i, x.mark(i, true), false);
        }
        says("At first: nothing");
        StairGang y = new StairGang();
        counts(y, 0, 0, 0, 0, 0, 0, 0, 0, 0, 0, 0, 0, 0);
        due("undo", y.undo(), false);
        due("back", y.mark(0, true), false);
        due("a line of NIGHTS needs no TOWN if it is night", nights(y, "night;night;"), 0);
        due("judged", y.judged(0), -1);
    }

    private static void aFaultyTown() {
        says("0, or its FAULT (all stays then)");
        StairGang x = lived();
        due("a FAULT at the very end", town(x, "house b floors 1;flight b 0 rise 9 odds 9;heap 77;walk 7;price 5;hill h rise 1 pays 1"),
                1 + 16 * 85);
        counts(x, 1, 2, 1, 1, 0, 6, 1, 7, 1, 2, 1, 5, 0);
        due("person", x.person(0, 0), 1);
        due("thing", x.thing(0), 1);
        due("rise", x.flight(0, 2), 4);
        due("the law of price", x.steal(1), 3);
        due("undo", x.undo(), true);
        due("undo", x.undo(), true);
        due("night", x.count(6), 0);
        due("MARK", x.mark(3, true), true);
        counts(x, 1, 2, 1, 1, 0, 6, 1, 7, 1, 0, 0, 0, 0);
    }

    private static void newNights() {
        says("NIGHTS are the NIGHTS");
        StairGang x = lived();
        due("nights", nights(x, "night;"), 0);
        counts(x, 1, 2, 1, 1, 0, 6, 1, 7, 1, 1, 1, 5, 0);
        due("none", x.nights(), 0);
        counts(x, 1, 2, 1, 1, 0, 6, 1, 7, 1, 0, 1, 5, 0);
        says("The TAPE is read as NIGHTS, likewise");
        StairGang y = lived();
        due("a FAULT behind three lines", nights(y, "night;night;night;steal a 2;"), 4 + 16 * 26);
        counts(y, 1, 2, 1, 1, 0, 6, 1, 7, 1, 2, 1, 5, 0);
        due("the old ones are judged", y.judged(2), 3);
        due("undo", y.undo(), true);
        due("MARK", y.mark(0, true), true);
    }
}
