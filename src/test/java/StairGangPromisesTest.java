import java.util.NoSuchElementException;

/** Each promise by answers worked out by hand: ordinary inputs, the edges that the document names, wrong inputs. */
public final class StairGangPromisesTest {
    private static int wrong = 0;

    public static void main(String[] args) {
        newObject();
        feed();
        townFaults();
        depthFaults();
        townTaken();
        nightsFaults();
        rows();
        ways();
        thefts();
        price();
        building();
        goingAndCarrying();
        nightsAndUndo();
        judged();
        alone();
        plan();
        bestThefts();
        seen();
        orders();
        post();
        watch();
        rests();
        live();
        years();
        marks();
        counts();
        System.out.println(wrong == 0 ? "all promises are kept" : wrong + " answers are not as promised");
        if (wrong != 0) {
            System.exit(1);
        }
    }

    private static void due(int promise, String what, long got, long want) {
        if (got != want) {
            wrong++;
            System.out.println("promise " + promise + ": " + what + " answered " + got + ", due is " + want);
        }
    }

    private static void due(int promise, String what, boolean got, boolean want) {
        due(promise, what, got ? 1 : 0, want ? 1 : 0);
    }

    private static int feedText(StairGang x, String text) {
        int length = x.count(12);
        for (int i = 0; i < text.length(); i += 24) {
            long[] parts = new long[3];
            for (int k = 0; k < 24; k++) {
                int sign = i + k < text.length() ? text.charAt(i + k) : 0;
                parts[k / 8] = parts[k / 8] << 8 | sign;
            }
            length = x.feed(parts[0], parts[1], parts[2]);
        }
        return length;
    }

    private static int town(StairGang x, String text) {
        feedText(x, text);
        return x.town();
    }

    private static int nights(StairGang x, String text) {
        feedText(x, text);
        return x.nights();
    }

    private static StairGang of(String text) {
        StairGang x = new StairGang();
        due(3, "town of " + text, town(x, text), 0);
        return x;
    }

    private static String times(String text, int many) {
        return text.repeat(many);
    }

    private static void newObject() {
        StairGang x = new StairGang();
        for (int what = 0; what < 13; what++) {
            due(1, "count " + what, x.count(what), 0);
        }
        due(1, "undo", x.undo(), false);
        due(1, "mark", x.mark(0, true), false);
        due(1, "reach", x.reach(0), -1);
        due(1, "best", x.best(0, 1), -1);
        due(1, "steal", x.steal(0), -1);
        due(1, "judged", x.judged(1), -1);
        due(1, "fits", x.fits(3), 0);
        due(1, "watch", x.watch(), 0);
        due(1, "NONE", StairGang.NONE, -1);
    }

    private static void feed() {
        StairGang x = new StairGang();
        due(2, "feed nothing", x.feed(0, 0, 0), 0);
        due(2, "bytes 9, 10, 13, 31, 32, 126, 127, 128", x.feed(0x090a0d1f207e7f80L, 0, 0), 3);
        due(2, "bytes 255", x.feed(-1L, -1L, -1L), 3);
        due(2, "eight in c", x.feed(0, 0, 0x6161616161616161L), 11);
        x = new StairGang();
        due(2, "order of the bytes", x.feed(0x6865617020343200L, 0x3b00000000000000L, 0), 8);
        due(2, "order of the bytes: town", x.town(), 0);
        due(2, "order of the bytes: heap 42", x.count(5), 42);
        due(2, "1,008 signs", feedText(x, times(" ", 1008)), 1000);
        due(2, "more", x.feed(0x6161616161616161L, 0, 0), 1000);
        due(2, "what is beyond was left out", x.town(), 0);
        due(2, "full to 999", feedText(x, times(" ", 999)), 999);
        due(2, "the last one comes", x.feed(0x613b000000000000L, 0, 0), 1000);
        due(2, "a at 999 alone", x.town(), 1 + 16 * 999);
    }

    private static void townFault(String text, int kind, int place) {
        StairGang x = new StairGang();
        due(3, "town " + text, town(x, text), kind == 0 ? 0 : kind + 16 * place);
        due(3, "the TAPE is taken: " + text, x.count(12), 0);
    }

    private static void townFaults() {
        String a = "house a floors 3;";
        townFault("", 0, 0);
        townFault(" \n ", 0, 0);
        townFault("heap1;walk2 ;", 0, 0);
        townFault("house  abcdefgh\nfloors 05;", 0, 0);
        townFault("house abcdefghi floors 5;", 1, 6);
        townFault("house a floors 00001;", 1, 15);
        townFault("housea floors 1;", 1, 0);
        townFault("houseaaaaaa", 1, 0);
        townFault("House a floors 1;", 1, 0);
        townFault(";", 1, 0);
        townFault("house a floors 1", 1, 16);
        townFault("house a floors 1 \n", 1, 18);
        townFault("house", 1, 5);
        townFault("house 1", 1, 6);
        townFault("house rise floors 1;", 1, 6);
        townFault("house night floors 1;", 1, 6);
        townFault("house not floors 1;", 1, 6);
        townFault("house high floors 1;house nights floors 1;house gone floors 2;thing sum lifts 1 at gone 2;", 0, 0);
        townFault("house a floor 1;", 1, 8);
        townFault("house a floors ;", 1, 15);
        townFault("house a floors 0;", 4, 15);
        townFault("house a floors 6;", 4, 15);
        townFault(a + "house a floors 9;", 3, 23);
        townFault("hill a rise 1 pays 0;house a floors 1;", 3, 27);
        townFault("house a floors 1;house b floors 1;house c floors 1;house d floors 1;house e floors 1;house", 5, 85);
        townFault("flight b 0", 2, 7);
        townFault(a + "flight a 3 rise 1 odds 1;", 4, 26);
        townFault(a + "flight a 2 rise 40 odds 10;flight a 0 rise 1 odds 0;", 0, 0);
        townFault(a + "flight a 1 rise 1 odds 1;flight a 1", 3, 51);
        townFault(a + "flight a 1 rise 0 odds 1;", 4, 33);
        townFault(a + "flight a 1 rise 41 odds 1;", 4, 33);
        townFault(a + "flight a 1 rise 1 odds 11;", 4, 40);
        townFault(a + "flight a b", 1, 26);
        townFault(a + "thing b lifts 0 at a 0;", 4, 31);
        townFault(a + "thing b lifts 41 at a 0;", 4, 31);
        townFault(a + "thing b lifts 40 at a 3;", 0, 0);
        townFault(a + "thing b lifts 40 at a 4;", 4, 39);
        townFault(a + "thing b lifts 40 at b 3;", 2, 37);
        townFault(a + "thing a", 3, 23);
        townFault("house a floors 1;" + "thing b lifts 1 at a 0;thing c lifts 1 at a 0;thing d lifts 1 at a 0;thing e lifts 1 at a 0;thing ",
                5, 109);
        townFault(a + "person p at a 4 reach 0 throws 0 wants a 0;", 4, 31);
        townFault(a + "person p at a 3 reach 41 throws 0 wants a 0;", 4, 39);
        townFault(a + "person p at a 3 reach 40 throws 7 wants a 0;", 4, 49);
        townFault(a + "person p at a 3 reach 40 throws 6 wants b 0;", 2, 57);
        townFault(a + "person p at a 3 reach 40 throws 6 wants p 0;", 2, 57);
        townFault(a + "person p at a 3 reach 40 throws 6 wants a 4;", 4, 59);
        townFault(a + "person p at a 3 reach 40 throws 6 wants a 3;", 0, 0);
        townFault(a + people("pqrst") + "person u", 5, 17 + 5 * 44);
        townFault("hill a rise 0 pays 0;", 4, 12);
        townFault("hill a rise 100 pays 0;", 4, 12);
        townFault("hill a rise 99 pays 99;", 0, 0);
        townFault("hill a rise 99 pays 100;", 4, 20);
        townFault("hill a rise 1 pays 1;hill b rise 1 pays 1;hill c rise 1 pays 1;hill d rise 1 pays 1;hill e", 5, 84);
        townFault("heap 999;walk 60;", 0, 0);
        townFault("heap 1000;", 4, 5);
        townFault("walk 61;", 4, 5);
        townFault("heap 1 1;", 1, 7);
        townFault("walk 1;heap 2;walk", 3, 14);
        townFault("heap 0;heap", 3, 7);
        townFault("price 0;price", 3, 8);
        townFault("steal a 0;", 1, 0);
        townFault("price ;", 1, 6);
        townFault("price", 1, 5);
        townFault("price -1;", 1, 6);
        townFault("price 1 2;", 1, 8);
        townFault("price 1+;", 1, 8);
        townFault("price 1<2=3;", 1, 9);
        townFault("price 1<(2=3)and 4<5;", 0, 0);
        townFault("price (1;", 1, 8);
        townFault("price 1);", 1, 7);
        townFault("price 12345;", 1, 6);
        townFault("price 9999;", 0, 0);
        townFault("price low;", 1, 6);
        townFault("price and 1;", 1, 6);
        townFault("price 1 not 2;", 1, 8);
        townFault(a + "price a;", 1, 23);
    }

    private static String people(String names) {
        StringBuilder s = new StringBuilder();
        for (char name : names.toCharArray()) {
            s.append("person " + name + " at a 3 reach 40 throws 6 wants a 3;");
        }
        return s.toString();
    }

    private static void depthFaults() {
        townFault("price ((((1))));", 0, 0);
        townFault("price (((((1)))));", 5, 11);
        townFault("price (((((not 1)))));", 5, 11);
        townFault("price ((((((1))))));", 5, 11);
        townFault("price (((((;", 1, 11);
        townFault("price (((((and", 1, 11);
        townFault("price not not not not high;", 0, 0);
        townFault("price not not not not not high;", 5, 26);
        townFault("price not not not not not not high;", 5, 26);
        townFault("price not(not(1));", 0, 0);
        townFault("price not(not(not 1));", 5, 18);
        townFault("price ((((1))))+((((1))))*not((not 1));", 0, 0);
        townFault("price 1+((((1+(2)))));", 5, 15);
    }

    private static void townTaken() {
        StairGang x = of("house a floors 1;flight a 0 rise 4 odds 1;thing t lifts 1 at a 1;person p at a 0 reach 0 throws 0 wants a 1;heap 9;");
        x.steal(0);
        x.build(0);
        x.steal(0);
        x.go(0, 0);
        x.night();
        x.mark(2, false);
        x.see(0, 1, true);
        due(3, "nights", nights(x, "night;"), 0);
        due(3, "a FAULT", town(x, "house a floors 1;jump"), 1 + 16 * 17);
        due(3, "all stays: heap", x.count(5), 5);
        due(3, "all stays: gone", x.count(8), 0);
        due(3, "all stays: sold", x.count(7), 8);
        due(3, "all stays: lines", x.count(9), 1);
        due(3, "all stays: SEEN", x.count(10), 1);
        due(3, "all stays: undo", x.count(11), 5);
        due(3, "a new one", town(x, "house b floors 2;flight b 1 rise 3 odds 2;heap 7;"), 0);
        int[] want = {1, 1, 0, 0, 0, 7, 0, 0, 1, 0, 0, 0, 0};
        for (int what = 0; what < want.length; what++) {
            due(3, "a new one: count " + what, x.count(what), want[what]);
        }
        due(3, "no MARK", x.mark(2, true), false);
        due(3, "no undo", x.undo(), false);
        due(3, "an empty one", x.town(), 0);
        due(3, "an empty one: houses", x.count(0), 0);
        due(3, "an empty one: heap", x.count(5), 0);
    }

    private static void nightsFault(String text, int kind, int place) {
        StairGang x = of("house a floors 2;house b floors 1;flight a 1 rise 1 odds 1;thing t lifts 1 at a 0;"
                + "person p at a 0 reach 9 throws 0 wants a 1;hill l rise 1 pays 1;");
        due(4, "nights first", nights(x, "night;night;"), 0);
        due(4, "nights " + text, nights(x, text), kind == 0 ? 0 : kind + 16 * place);
        due(4, "the TAPE is taken: " + text, x.count(12), 0);
        if (kind != 0) {
            due(4, "NIGHTS stay: " + text, x.count(9), 2);
        }
    }

    private static void nightsFaults() {
        nightsFault("", 0, 0);
        nightsFault("steal a 1;build a 1;go p b 1;carry p t a 2;night ;", 0, 0);
        nightsFault("steal a 0;", 4, 8);
        nightsFault("steal a 7;", 4, 8);
        nightsFault("steal b 0;", 4, 8);
        nightsFault("build a 2;", 4, 8);
        nightsFault("steal p 0;", 2, 6);
        nightsFault("steal l 0;", 2, 6);
        nightsFault("steal steal 0;", 1, 6);
        nightsFault("steal a b;", 1, 8);
        nightsFault("steal a 1", 1, 9);
        nightsFault("go a a 1;", 2, 3);
        nightsFault("go p p 1;", 2, 5);
        nightsFault("go p a 3;", 4, 7);
        nightsFault("go p b 2;", 4, 7);
        nightsFault("carry t t a 1;", 2, 6);
        nightsFault("carry p p a 1;", 2, 8);
        nightsFault("carry p t t 1;", 2, 10);
        nightsFault("carry p t a 3;", 4, 12);
        nightsFault("night", 1, 5);
        nightsFault("night 1;", 1, 6);
        nightsFault("nights;", 1, 0);
        nightsFault("house c floors 1;", 1, 0);
        nightsFault("heap 1;", 1, 0);
        nightsFault(times("night;", 40), 0, 0);
        nightsFault(times("night;", 40) + "steal", 5, 240);
        nightsFault(times("night;", 40) + "jump", 1, 240);
        StairGang x = new StairGang();
        due(4, "no town", nights(x, "night;"), 0);
        due(4, "no town: lines", x.count(9), 1);
        due(4, "no town: steal", nights(x, "steal a 0;"), 2 + 16 * 6);
        due(4, "nights once more", nights(x, "night;night;night;"), 0);
        due(4, "nights once more: lines", x.count(9), 3);
        due(4, "nights of none", x.nights(), 0);
        due(4, "nights of none: lines", x.count(9), 0);
    }

    private static void rows() {
        StairGang x = of("house a floors 2;house b floors 3;flight b 2 rise 7 odds 4;flight a 0 rise 9 odds 10;thing t lifts 6 at b 3;"
                + "person p at a 2 reach 11 throws 5 wants b 1;");
        int[] first = {1, 2, 7, 4, 1};
        int[] person = {2, 11, 5, 7};
        for (int what = 0; what < 5; what++) {
            due(5, "flight 0, " + what, x.flight(0, what), first[what]);
        }
        for (int what = 0; what < 4; what++) {
            due(6, "person 0, " + what, x.person(0, what), person[what]);
        }
        due(5, "flight 0, 5", x.flight(0, 5), -1);
        due(5, "flight 0, -1", x.flight(0, -1), -1);
        due(5, "flight 2, 0", x.flight(2, 0), -1);
        due(5, "flight -1, 0", x.flight(-1, 0), -1);
        x.steal(0);
        due(5, "flight 0 is gone", x.flight(0, 4), 0);
        due(5, "flight 1 is not", x.flight(1, 4), 1);
        due(6, "person 0, 4", x.person(0, 4), -1);
        due(6, "person 0, -1", x.person(0, -1), -1);
        due(6, "person 1, 0", x.person(1, 0), -1);
        due(6, "person -1, 0", x.person(-1, 0), -1);
        due(7, "thing 0", x.thing(0), 9);
        due(7, "thing 1", x.thing(1), -1);
        due(7, "thing -1", x.thing(-1), -1);
    }

    /** House a: 0-10-1-20-2; house b: 0-8-1, no flight told to 2; a thing of 7 at a 1. */
    private static final String WAYS = "house a floors 2;house b floors 2;flight a 0 rise 10 odds 0;flight a 1 rise 20 odds 0;"
            + "flight b 0 rise 8 odds 0;thing t lifts 7 at a 1;person p at a 2 reach 13 throws 0 wants b 1;"
            + "person q at b 0 reach 12 throws 0 wants a 2;person r at b 2 reach 40 throws 0 wants b 2;"
            + "person s at b 2 reach 40 throws 0 wants b 1;heap 50;";

    private static void ways() {
        StairGang x = of(WAYS + "walk 4;");
        due(8, "reach 0: no flight, no way", x.reach(0), 7 | 3 << 6);
        due(8, "reach 2", x.reach(2), 1 << 8);
        due(8, "reach 4", x.reach(4), -1);
        due(8, "reach -1", x.reach(-1), -1);
        due(9, "cost to his own", x.cost(0, 2), 0);
        due(9, "cost down, over, up", x.cost(0, 7), 20 + 10 + 4 + 8);
        due(9, "cost to no way", x.cost(0, 8), -1);
        due(9, "cost to no PLACE", x.cost(0, 3), -1);
        due(9, "cost to PLACE -1", x.cost(0, -1), -1);
        due(9, "cost to PLACE 12", x.cost(0, 12), -1);
        due(9, "cost of nobody", x.cost(4, 0), -1);
        due(10, "cut", x.cut(), 8);
        x.steal(1);
        due(9, "13 + 7 are enough down, twice the rise", x.cost(0, 7), 40 + 10 + 4 + 8);
        due(10, "12 + 7 are not enough up", x.cut(), 10);
        due(8, "reach 1", x.reach(1), 3 | 3 << 6);
        x.steal(0);
        due(9, "climbs both", x.cost(0, 7), 40 + 20 + 4 + 8);
        due(9, "walk of 5 if it is not told", of(WAYS).cost(1, 0), 5);
        due(9, "walk of 0", of(WAYS + "walk 0;").cost(1, 1), 10);
        StairGang y = of("house a floors 1;house b floors 1;house c floors 1;house d floors 1;house e floors 5;flight e 4 rise 9 odds 0;"
                + "person p at e 5 reach 0 throws 0 wants e 5;person q at a 1 reach 0 throws 0 wants e 5;");
        due(8, "the last PLACE of all", y.reach(0), 3 << 28);
        due(9, "from the last PLACE of all", y.cost(0, 28), 9);
        due(28, "the last PLACE of all is not the first one", y.best(0, 1), 28);
        due(13, "out of the last PLACE of all", y.go(0, 28), true);
        y.steal(0);
        due(28, "the last PLACE of all", y.best(1, 1), 29);
        due(9, "beyond it", y.cost(0, 30), -1);
    }

    private static void thefts() {
        StairGang x = of("house a floors 3;house b floors 1;flight a 0 rise 5 odds 0;flight a 2 rise 7 odds 0;flight b 0 rise 9 odds 0;");
        due(11, "not below what is there", x.steal(0), -1);
        due(11, "the top one", x.steal(1), 7);
        due(11, "twice", x.steal(1), -1);
        due(11, "all told above are gone", x.steal(0), 5);
        due(11, "another house", x.steal(2), 9);
        due(11, "no flight", x.steal(3), -1);
        due(11, "no flight", x.steal(-1), -1);
        due(11, "sold", x.count(7), 21);
        due(11, "left", x.count(8), 0);
        StairGang y = of("house a floors 3;flight a 0 rise 40 odds 0;flight a 1 rise 6 odds 0;flight a 2 rise 7 odds 0;");
        due(11, "the top one", y.steal(2), 7);
        due(11, "of the two above it one is there still", y.steal(0), -1);
        due(11, "the middle one", y.steal(1), 6);
        due(11, "both above it are gone", y.steal(0), 40);
    }

    private static void priceIs(String law, int want) {
        StairGang x = of("house a floors 4;flight a 0 rise 6 odds 0;flight a 1 rise 1 odds 0;flight a 2 rise 1 odds 0;price " + law + ";");
        x.steal(2);
        x.night();
        x.steal(1);
        x.night();
        x.night();
        due(11, "price " + law, x.steal(0), want);
    }

    /** With high 6, nights 3, gone 2. */
    private static void price() {
        priceIs("high*100+nights*10+gone", 632);
        priceIs("10-4-3", 3);
        priceIs("1+2*3", 7);
        priceIs("(1+2)*3", 9);
        priceIs("2*3+4*5", 26);
        priceIs("1-2", 0);
        priceIs("999+1", 999);
        priceIs("998+1", 999);
        priceIs("998+0", 998);
        priceIs("5<6", 1);
        priceIs("6<6", 0);
        priceIs("6=6", 1);
        priceIs("1+1=2", 1);
        priceIs("not 0", 1);
        priceIs("not 7", 0);
        priceIs("not 0+5", 6);
        priceIs("not not 7", 1);
        priceIs("7 and 9", 1);
        priceIs("7 and 0", 0);
        priceIs("0 or 3", 1);
        priceIs("0 or 0", 0);
        priceIs("1 or 1 and 0", 0);
        priceIs("0 and 0 or 1", 1);
        priceIs("(1 or 1 and 0)+40", 40);
        priceIs("1 or(1 and 0)", 1);
        priceIs("2<1 or 1<2", 1);
        priceIs("not(1<2)*5+3", 3);
        priceIs("9999*9999*9999", 0);
        priceIs("9999*9999*50", 999);
        priceIs("(9999*9999*9999<0)*8", 8);
        priceIs("(1<2)*(high-gone)*nights", 12);
        priceIs("((((high))))", 6);
        priceIs("(7 and 0)+5", 5);
        priceIs("(0 and 7)+5", 5);
        priceIs("(0 or 0)+5", 5);
        priceIs("(6<6)+5", 5);
        priceIs("(7<6)+5", 5);
        priceIs("(5=6)+5", 5);
        priceIs("not 7+5", 5);
        priceIs("40-(2*3<7)*3-(1=1)*5", 32);
        // four sides wait on each of the five levels; 4 < 3 + 4 * x is 1 for x 1, 0 for x 0, so the innermost number decides
        priceIs("0 or 4<3+4*(0 or 4<3+4*(0 or 4<3+4*(0 or 4<3+4*(0 or 4<3+4*1))))", 1);
        priceIs("0 or 4<3+4*(0 or 4<3+4*(0 or 4<3+4*(0 or 4<3+4*(0 or 4<3+4*0))))", 0);
        priceIs("0 or 0 or 3+4*(0 or 3+4*(0 or 3+4*(0 or 3+4*2)))", 1);
        priceIs("3+4*(3+4*(3+4*(3+4*(2))))", 767);
        StairGang x = of("house a floors 2;flight a 0 rise 3 odds 0;flight a 1 rise 4 odds 0;heap 9;price gone+10;");
        due(11, "gone without this one", x.steal(1), 10);
        x.build(1);
        due(11, "gone counts what is gone now", x.steal(1), 10);
        due(11, "gone 1", x.steal(0), 11);
    }

    private static void building() {
        StairGang x = of("house a floors 2;flight a 0 rise 6 odds 0;flight a 1 rise 5 odds 0;heap 11;");
        due(12, "it is there", x.build(0), -1);
        x.steal(1);
        x.steal(0);
        due(12, "from the top", x.build(1), 6);
        due(12, "just enough", x.build(0), 0);
        x.steal(1);
        due(12, "the heap is too small", x.build(1), -1);
        due(12, "no flight", x.build(2), -1);
        due(12, "no flight", x.build(-1), -1);
        due(12, "heap", x.count(5), 0);
        due(12, "what was sold stays", x.count(7), 6 + 5 + 5);
    }

    private static void goingAndCarrying() {
        StairGang x = of("house a floors 2;house b floors 1;flight a 0 rise 10 odds 0;flight a 1 rise 10 odds 0;"
                + "thing t lifts 5 at a 0;thing u lifts 5 at a 0;thing v lifts 1 at b 1;"
                + "person p at a 0 reach 5 throws 0 wants a 2;person q at b 0 reach 0 throws 0 wants b 0;");
        due(13, "his own", x.go(0, 0), true);
        due(13, "up", x.go(0, 2), true);
        due(13, "there", x.person(0, 0), 2);
        due(13, "over", x.go(0, 6), true);
        due(13, "no way", x.go(0, 7), false);
        due(13, "no PLACE", x.go(0, 8), false);
        due(13, "no PLACE", x.go(0, -1), false);
        due(13, "nobody", x.go(2, 0), false);
        due(13, "nobody", x.go(-1, 0), false);
        due(13, "he stays", x.person(0, 0), 6);
        due(14, "the THING is not with him", x.carry(0, 0, 0), false);
        x.go(0, 0);
        x.steal(1);
        x.steal(0);
        due(14, "up on the other one", x.carry(0, 0, 1), true);
        due(14, "thing", x.thing(0), 1);
        due(14, "person", x.person(0, 0), 1);
        due(14, "no further, though both would lift him", x.carry(0, 0, 2), false);
        due(14, "down on the other one", x.carry(0, 0, 0), true);
        due(14, "over", x.carry(0, 0, 6), true);
        due(14, "one alone is not enough with itself carried", x.carry(0, 0, 1), true);
        x.carry(0, 0, 0);
        x.carry(0, 1, 6);
        x.go(0, 0);
        due(14, "the last one can't be climbed on and carried", x.carry(0, 0, 1), false);
        due(13, "but climbed on", x.go(0, 1), true);
        due(14, "not from below him", x.carry(0, 0, 1), false);
        x.go(0, 0);
        due(14, "to where he is", x.carry(0, 0, 0), true);
        due(14, "no THING", x.carry(0, 3, 0), false);
        due(14, "no THING", x.carry(0, -1, 0), false);
        due(14, "nobody", x.carry(2, 0, 0), false);
        due(14, "nobody", x.carry(-1, 0, 0), false);
        due(14, "no PLACE", x.carry(0, 0, 8), false);
    }

    private static void nightsAndUndo() {
        StairGang x = of("house a floors 1;flight a 0 rise 3 odds 0;thing t lifts 1 at a 0;person p at a 0 reach 0 throws 0 wants a 1;heap 5;");
        due(15, "night", x.night(), 1);
        due(15, "night", x.night(), 2);
        due(16, "undo", x.undo(), true);
        due(16, "night 1", x.count(6), 1);
        x.carry(0, 0, 1);
        x.steal(0);
        x.build(0);
        x.go(0, 0);
        due(16, "five", x.count(11), 5);
        due(16, "go", x.undo(), true);
        due(16, "go undone", x.person(0, 0), 1);
        due(16, "build", x.undo(), true);
        due(16, "build undone: heap", x.count(5), 5);
        due(16, "build undone: gone", x.count(8), 0);
        due(16, "steal", x.undo(), true);
        due(16, "steal undone: sold", x.count(7), 0);
        due(16, "steal undone: there", x.count(8), 1);
        due(16, "carry", x.undo(), true);
        due(16, "carry undone: thing", x.thing(0), 0);
        due(16, "carry undone: person", x.person(0, 0), 0);
        due(16, "night", x.undo(), true);
        due(16, "nothing", x.undo(), false);
        for (int i = 0; i < 20; i++) {
            x.night();
        }
        due(16, "sixteen", x.count(11), 16);
        x.build(0);
        x.go(0, 5);
        x.carry(0, 1, 0);
        x.steal(4);
        due(16, "what can't be is none of them", x.count(11), 16);
        for (int i = 0; i < 16; i++) {
            due(16, "undo " + i, x.undo(), true);
            due(16, "undo " + i + ": nights", x.count(6), 19 - i);
        }
        due(16, "the first four stay", x.undo(), false);
        due(16, "the first four stay: nights", x.count(6), 4);
        x.go(0, 0);
        due(16, "going to his own is one, too", x.count(11), 1);
        x.see(0, 1, true);
        nights(x, "night;");
        due(16, "SEEN and NIGHTS are none", x.count(11), 1);
        due(16, "undo", x.undo(), true);
        due(16, "SEEN stays", x.count(10), 1);
        due(16, "NIGHTS stay", x.count(9), 1);
    }

    private static void judged() {
        String text = "house a floors 2;flight a 0 rise 5 odds 0;flight a 1 rise 3 odds 0;thing t lifts 9 at a 0;"
                + "person p at a 0 reach 0 throws 0 wants a 1;heap 4;price high+nights*10;";
        StairGang x = of(text);
        due(17, "no lines", x.judged(0), -1);
        due(17, "no lines", x.judged(1), -1);
        due(17, "no lines", x.judged(2), 0);
        due(17, "others", x.judged(3), -2);
        due(17, "others", x.judged(-1), -2);
        nights(x, "night;steal a 1;steal a 0;build a 0;build a 1;build a 1;");
        due(17, "build a 0 can't be", x.judged(0), 3);
        due(17, "nobody is CUT OFF", x.judged(1), -1);
        due(17, "sold", x.judged(2), 13 + 15);
        nights(x, "steal a 0;steal a 1;steal a 0;go p a 0;carry p t a 1;carry p t a 0;go p a 1;");
        due(17, "a 0 not below a 1", x.judged(0), 0);
        due(17, "never", x.judged(1), -1);
        due(17, "sold", x.judged(2), 8);
        x.go(0, 1);
        x.steal(1);
        x.night();
        due(17, "from the beginning, not from now", x.judged(2), 8);
        due(17, "all stays", x.count(6), 1);
        due(17, "all stays", x.count(7), 3);
        due(17, "all stays", x.person(0, 0), 1);
        StairGang y = of("house a floors 1;house b floors 1;person p at a 0 reach 0 throws 0 wants a 1;");
        nights(y, "go p b 1;night;");
        due(17, "a line that can't be is none of the second kind", y.judged(1), 1);
        due(17, "the first one that can't", y.judged(0), 0);
        StairGang z = of("house a floors 1;house b floors 1;flight a 0 rise 5 odds 0;person p at a 0 reach 4 throws 0 wants a 1;heap 5;");
        nights(z, "night;steal a 0;build a 0;steal a 0;night;");
        due(17, "CUT OFF for a while", z.judged(1), 1);
        due(17, "all can be", z.judged(0), -1);
        StairGang w = of("house a floors 1;house b floors 1;flight b 0 rise 5 odds 0;flight a 0 rise 6 odds 0;thing t lifts 1 at a 0;"
                + "thing u lifts 2 at b 0;thing v lifts 3 at a 0;person p at a 0 reach 0 throws 0 wants a 0;"
                + "person q at b 0 reach 3 throws 0 wants a 0;");
        nights(w, "carry q t a 0;carry p u a 0;carry q u b 1;carry q u b 0;go q a 0;carry q v b 0;steal b 0;go q b 1;");
        due(17, "q is not with t", w.judged(0), 0);
        due(17, "on u and v he comes down again", w.judged(1), -1);
        due(17, "b 0 is sold", w.judged(2), 5);
        nights(w, "carry q u b 1;steal b 0;");
        due(17, "u is with q and can be carried", w.judged(0), -1);
        due(17, "q can't come down without u below", w.judged(1), 1);
        nights(w, "carry p v b 0;carry p t a 0;");
        due(17, "t is not where p is now", w.judged(0), 1);
        nights(w, "carry p v b 0;go q a 1;carry p v b 0;carry p u b 1;steal b 0;carry q u b 1;go p b 0;");
        due(17, "a 0 is there, p is with v, and with u", w.judged(0), 5);
        due(17, "p at b 1 can't come down, with v alone below", w.judged(1), 4);
    }

    private static void alone() {
        StairGang x = of("house a floors 3;house b floors 1;flight a 0 rise 10 odds 0;flight a 1 rise 4 odds 0;flight a 2 rise 5 odds 0;"
                + "flight b 0 rise 3 odds 0;person p at a 3 reach 4 throws 0 wants b 1;person q at a 3 reach 0 throws 0 wants a 3;"
                + "person r at b 0 reach 0 throws 0 wants a 2;");
        due(18, "p climbs two", x.alone(0), 1 | 4);
        due(18, "q is there", x.alone(1), 0);
        due(18, "r", x.alone(2), 3);
        due(18, "nobody", x.alone(3), -1);
        due(18, "nobody", x.alone(-1), -1);
        x.steal(2);
        due(18, "p is CUT OFF", x.alone(0), 0);
        x.steal(1);
        due(18, "r is CUT OFF", x.alone(2), 0);
    }

    private static void plan() {
        String text = "house a floors 1;house b floors 2;flight a 0 rise 9 odds 0;flight b 0 rise 5 odds 0;flight b 1 rise 4 odds 0;"
                + "person p at a 0 reach 4 throws 0 wants b 2;person q at a 1 reach 0 throws 0 wants a 0;";
        StairGang x = of(text + "heap 14;");
        due(19, "nothing to build", x.plan(0), 0);
        due(19, "nothing to build", x.plan(1), 0);
        x.steal(2);
        due(19, "p climbs that one", x.plan(1), 0);
        x.steal(1);
        due(19, "p needs b 0", x.plan(0), 5);
        due(19, "p needs b 0", x.plan(1), 2);
        x.steal(0);
        due(19, "q needs a 0", x.plan(0), 14);
        due(19, "both", x.plan(1), 3);
        due(19, "others", x.plan(2), -1);
        due(19, "others", x.plan(-1), -1);
        StairGang y = of(text + "heap 13;");
        y.steal(2);
        y.steal(1);
        y.steal(0);
        due(19, "the heap is too small", y.plan(0), -1);
        due(19, "the heap is too small", y.plan(1), -1);
        due(19, "nobody built", y.count(8), 0);
    }

    private static void bestThefts() {
        StairGang x = of("house a floors 2;house b floors 2;flight a 0 rise 9 odds 0;flight a 1 rise 3 odds 0;"
                + "flight b 0 rise 4 odds 0;flight b 1 rise 8 odds 0;person p at a 0 reach 0 throws 0 wants a 1;"
                + "person q at b 0 reach 4 throws 0 wants b 1;");
        due(20, "none", x.thefts(0, 0, 0), 0);
        due(20, "none", x.thefts(0, 0, 1), 0);
        due(20, "one, from the top", x.thefts(1, 0, 0), 8);
        due(20, "one, from the top", x.thefts(1, 0, 1), 8);
        due(20, "two: 12 by b, 12 by a if p may be CUT OFF", x.thefts(2, 0, 1), 12);
        due(20, "two: the least set of equal ones", x.thefts(2, 1, 1), 3);
        due(20, "three", x.thefts(3, 0, 0), 15);
        due(20, "three", x.thefts(3, 0, 1), 14);
        due(20, "three, one CUT OFF", x.thefts(3, 1, 0), 20);
        due(20, "three, one CUT OFF", x.thefts(3, 1, 1), 11);
        due(20, "all", x.thefts(10, 5, 1), 15);
        due(20, "others", x.thefts(11, 0, 0), -1);
        due(20, "others", x.thefts(-1, 0, 0), -1);
        due(20, "others", x.thefts(1, 6, 0), -1);
        due(20, "others", x.thefts(1, -1, 0), -1);
        due(20, "others", x.thefts(1, 1, 2), -1);
        due(20, "others", x.thefts(1, 1, -1), -1);
        x.steal(1);
        due(20, "what is above is gone already", x.thefts(1, 1, 1), 1);
        x.steal(0);
        due(20, "one is CUT OFF already", x.thefts(3, 0, 0), -1);
        due(20, "one is CUT OFF already", x.thefts(0, 0, 1), -1);
        due(20, "one may be", x.thefts(3, 1, 0), 12);
        StairGang y = of("house a floors 3;house b floors 1;flight a 2 rise 2 odds 0;flight a 1 rise 5 odds 0;flight b 0 rise 7 odds 0;");
        due(20, "the fewest of equal ones, not the least set", y.thefts(2, 0, 1), 5);
        due(20, "9", y.thefts(2, 0, 0), 9);
        StairGang z = of("house a floors 2;house b floors 1;flight a 1 rise 2 odds 0;flight a 0 rise 5 odds 0;flight b 0 rise 7 odds 0;"
                + "person p at b 0 reach 0 throws 0 wants b 1;person q at a 0 reach 1 throws 0 wants a 1;");
        due(20, "7 by one or by two", z.thefts(2, 1, 1), 5);
        StairGang w = of("house a floors 2;house b floors 1;flight a 1 rise 2 odds 0;flight a 0 rise 5 odds 0;flight b 0 rise 7 odds 0;"
                + "person p at b 0 reach 0 throws 0 wants b 1;person q at a 0 reach 1 throws 0 wants a 2;");
        due(20, "7 by one, for the fewest", w.thefts(2, 1, 0), 7);
        due(20, "7 by one, for the fewest", w.thefts(2, 1, 1), 4);
        StairGang v = of("house a floors 3;flight a 0 rise 40 odds 0;flight a 1 rise 6 odds 0;flight a 2 rise 7 odds 0;");
        due(20, "not the lowest and the highest, which leave one between", v.thefts(2, 0, 0), 13);
        due(20, "all three", v.thefts(3, 0, 0), 53);
    }

    private static void seen() {
        StairGang x = of("house a floors 2;house b floors 1;flight a 0 rise 10 odds 0;flight a 1 rise 5 odds 0;flight b 0 rise 6 odds 0;"
                + "thing t lifts 6 at a 0;person p at a 0 reach 4 throws 0 wants a 2;person q at b 0 reach 0 throws 0 wants b 0;");
        due(22, "nothing SEEN: sets", x.fits(0), 8);
        due(22, "nothing SEEN: in all", x.fits(1), 0);
        due(22, "nothing SEEN: in some", x.fits(2), 7);
        due(22, "nothing SEEN: least", x.fits(3), 0);
        due(22, "others", x.fits(4), -1);
        due(22, "others", x.fits(-1), -1);
        due(21, "p came, on t", x.see(0, 1, true), true);
        due(22, "that says nothing", x.fits(0), 8);
        due(21, "p came to a 2", x.see(0, 2, true), true);
        due(22, "flight 1 is in all", x.fits(1), 2);
        due(22, "four sets", x.fits(0), 4);
        x.carry(0, 0, 6);
        due(22, "what was SEEN was SEEN as it was then", x.fits(0), 4);
        due(21, "q could not", x.see(1, 2, false), true);
        due(22, "flight 0 is in none", x.fits(2), 6);
        due(22, "two sets", x.fits(0), 2);
        due(22, "the least of the smallest", x.fits(3), 2);
        due(21, "p could not", x.see(0, 7, false), true);
        due(22, "on t he could: none", x.fits(0), 0);
        due(22, "none", x.fits(1), -1);
        due(22, "none", x.fits(2), -1);
        due(22, "none", x.fits(3), -1);
        due(21, "nobody", x.see(2, 0, true), false);
        due(21, "nobody", x.see(-1, 0, true), false);
        due(21, "no PLACE", x.see(0, 3, true), false);
        due(21, "no PLACE", x.see(0, -1, true), false);
        for (int i = 4; i < 8; i++) {
            due(21, "see " + i, x.see(0, 0, true), true);
        }
        due(21, "eight are SEEN", x.see(0, 0, true), false);
        due(21, "eight are SEEN", x.count(10), 8);
        StairGang y = of("house a floors 2;house b floors 2;flight b 0 rise 1 odds 0;flight b 1 rise 1 odds 0;flight a 0 rise 1 odds 0;"
                + "person p at a 0 reach 0 throws 0 wants a 2;");
        y.steal(2);
        y.see(0, 8, true);
        due(22, "whatever is there now", y.fits(3), 3);
        y.see(0, 2, false);
        due(22, "no flight told, no way", y.fits(0), 2);
        y.see(0, 2, true);
        due(22, "no set", y.fits(0), 0);
        StairGang z = of("house a floors 1;house b floors 1;flight a 0 rise 1 odds 0;flight b 0 rise 1 odds 0;"
                + "person p at a 1 reach 0 throws 0 wants a 0;");
        z.see(0, 7, false);
        due(22, "one is not there, or the other, or both", z.fits(0), 3);
        due(22, "in all", z.fits(1), 0);
        due(22, "in some", z.fits(2), 3);
        StairGang w = of("house a floors 1;flight a 0 rise 1 odds 0;person p at a 0 reach 0 throws 0 wants a 0;");
        w.mark(0, false);
        w.see(0, 1, true);
        due(22, "it is there", w.fits(1), 1);
        w.mark(0, true);
        w.see(0, 1, false);
        due(22, "SEEN anew: it is not", w.fits(2), 0);
        w.see(0, 0, true);
        due(22, "the first one stays", w.fits(0), 1);
        w.mark(1, false);
        w.see(0, 1, true);
        due(22, "both can't be", w.fits(0), 0);
        w.mark(1, true);
        due(22, "back", w.fits(0), 1);
        StairGang v = of("house a floors 1;flight a 0 rise 1 odds 0;person p at a 0 reach 0 throws 0 wants a 0;");
        v.see(0, 1, true);
        town(v, "house a floors 1;flight a 0 rise 1 odds 0;person p at a 0 reach 0 throws 0 wants a 0;");
        v.see(0, 1, false);
        due(22, "of the old town nothing is SEEN", v.fits(3), 0);
        due(22, "it is not there", v.fits(0), 1);
    }

    private static void orders() {
        StairGang x = of("house a floors 4;flight a 0 rise 4 odds 0;flight a 1 rise 4 odds 0;flight a 2 rise 6 odds 0;flight a 3 rise 2 odds 0;"
                + "hill k rise 8 pays 10;hill l rise 6 pays 7;hill m rise 20 pays 11;");
        due(23, "nothing is gone", x.orders(0), 0);
        due(23, "nothing is gone", x.orders(1), 0);
        due(23, "nothing is gone", x.orders(2), -2);
        due(23, "others", x.orders(-1), -2);
        x.steal(3);
        due(23, "too little for all", x.orders(0), 0);
        due(23, "none is given", x.orders(1), 0);
        due(23, "none", x.orders(2), -1);
        x.steal(2);
        due(23, "8 for k", x.orders(0), 10);
        due(23, "8", x.orders(1), 8);
        due(23, "flight 2", x.orders(2), 0);
        due(23, "flight 3", x.orders(3), 0);
        x.steal(1);
        due(23, "4 + 2 for l alone is less than k", x.orders(0), 10);
        due(23, "least rise", x.orders(1), 8);
        due(23, "flight 1 is for none", x.orders(2), -1);
        x.steal(0);
        due(23, "both", x.orders(0), 17);
        due(23, "4 + 4 and 6", x.orders(1), 14);
        due(23, "row 0", x.orders(2), 0);
        due(23, "row 1", x.orders(3), 0);
        due(23, "row 2", x.orders(4), 1);
        due(23, "row 3", x.orders(5), -1);
        due(23, "no more", x.orders(6), -2);
        StairGang y = of("house a floors 5;house b floors 5;flight a 4 rise 5 odds 0;flight a 3 rise 5 odds 0;flight a 2 rise 5 odds 0;"
                + "flight a 1 rise 5 odds 0;flight a 0 rise 5 odds 0;flight b 4 rise 5 odds 0;flight b 3 rise 5 odds 0;"
                + "flight b 2 rise 40 odds 0;hill k rise 5 pays 3;hill l rise 5 pays 3;hill m rise 36 pays 9;");
        for (int i = 0; i < 8; i++) {
            y.steal(i);
        }
        due(23, "the eighth is none of them", y.orders(0), 6);
        due(23, "first row: k", y.orders(2), 0);
        due(23, "first row: l", y.orders(3), 1);
        due(23, "first row: none", y.orders(4), -1);
        due(23, "the seventh", y.orders(8), -1);
        due(23, "no eighth", y.orders(9), -2);
        StairGang v = of("house a floors 5;house b floors 5;flight a 4 rise 5 odds 0;flight a 3 rise 5 odds 0;flight a 2 rise 5 odds 0;"
                + "flight a 1 rise 5 odds 0;flight a 0 rise 5 odds 0;flight b 4 rise 5 odds 0;flight b 3 rise 5 odds 0;hill k rise 36 pays 3;");
        for (int i = 0; i < 7; i++) {
            v.steal(i);
        }
        due(23, "35 is too little", v.orders(0), 0);
        due(23, "none is given", v.orders(1), 0);
        for (int i = 0; i < 7; i++) {
            due(23, "none for the flight " + i, v.orders(2 + i), -1);
        }
        StairGang u = of("house a floors 3;flight a 2 rise 8 odds 0;flight a 1 rise 3 odds 0;flight a 0 rise 4 odds 0;"
                + "hill k rise 7 pays 2;hill l rise 7 pays 2;");
        for (int i = 0; i < 3; i++) {
            u.steal(i);
        }
        due(23, "both pay", u.orders(0), 4);
        due(23, "8 for the first HILL, for the first row", u.orders(2), 0);
        due(23, "3 + 4 for the second", u.orders(4), 1);
        StairGang t = of("house a floors 2;flight a 1 rise 8 odds 0;flight a 0 rise 7 odds 0;hill k rise 9 pays 9;hill l rise 7 pays 2;");
        t.steal(0);
        due(23, "8 for l", t.orders(1), 8);
        t.steal(1);
        due(23, "15 for k", t.orders(0), 9);
        StairGang z = of("house a floors 2;flight a 0 rise 5 odds 0;flight a 1 rise 5 odds 0;hill k rise 5 pays 0;hill l rise 9 pays 4;");
        z.steal(1);
        due(23, "nothing is given for no pay", z.orders(1), 0);
        z.steal(0);
        due(23, "l", z.orders(0), 4);
        z.build(0);
        due(23, "no heap to build from", z.orders(3), 1);
    }

    private static void post() {
        StairGang x = of("house a floors 5;house b floors 3;person p at a 5 reach 0 throws 2 wants a 0;person q at a 3 reach 0 throws 4 wants a 0;"
                + "person r at b 0 reach 0 throws 3 wants a 0;person s at b 3 reach 0 throws 6 wants a 0;person t at a 0 reach 0 throws 0 wants a 0;");
        due(24, "p to q, q to r and t, r to s", x.post(0, 0), 3);
        due(24, "all", x.post(0, 1), 31);
        due(24, "q to p, r and t, r to s", x.post(1, 0), 2);
        due(24, "all", x.post(1, 1), 31);
        due(24, "t throws nothing", x.post(4, 0), 0);
        due(24, "t alone", x.post(4, 1), 16);
        due(24, "r: s and t; s: none of a but t", x.post(2, 0), 1);
        due(24, "r", x.post(2, 1), 4 | 8 | 16);
        due(24, "others", x.post(5, 0), -1);
        due(24, "others", x.post(-1, 0), -1);
        due(24, "others", x.post(0, 2), -1);
        due(24, "others", x.post(0, -1), -1);
        StairGang y = of("house a floors 5;house b floors 5;person p at a 2 reach 0 throws 0 wants a 0;person q at a 2 reach 0 throws 6 wants a 0;"
                + "person r at b 3 reach 0 throws 5 wants a 0;");
        due(24, "the same PLACE is 0 floors away", y.post(0, 1), 7);
        due(24, "2 + 3 + 1 = 6", y.post(1, 1), 7);
        due(24, "5 is too little", y.post(2, 1), 4);
    }

    private static void watch() {
        String houses = "house a floors 2;house b floors 2;";
        String[] people = {"person p at a 0 reach 0 throws 0 wants a 0;", "person q at a 1 reach 0 throws 0 wants a 0;",
            "person r at b 0 reach 0 throws 0 wants a 0;", "person s at a 2 reach 0 throws 0 wants a 0;",
            "person t at b 1 reach 0 throws 0 wants a 0;"};
        StairGang x = of(houses + "flight a 0 rise 1 odds 0;" + people[0]);
        due(25, "one is not enough", x.watch(), -1);
        x.steal(0);
        due(25, "nothing to be seen", x.watch(), 0);
        due(25, "two: lower and upper", of(houses + "flight a 0 rise 1 odds 0;" + people[3] + people[0] + people[1]).watch(), 6);
        due(25, "from the street anywhere", of(houses + "flight a 0 rise 1 odds 0;" + people[2] + people[0]).watch(), 3);
        due(25, "not from b 1", of(houses + "flight a 0 rise 1 odds 0;" + people[4] + people[0]).watch(), -1);
        due(25, "higher up not from the street", of(houses + "flight a 1 rise 1 odds 0;" + people[0] + people[2] + people[1]).watch(), -1);
        due(25, "a 1 by q and s", of(houses + "flight a 1 rise 1 odds 0;" + people[0] + people[1] + people[2] + people[3]).watch(), 10);
        due(25, "least set of equal ones", of(houses + "flight a 0 rise 1 odds 0;" + people[0] + people[1] + people[2]).watch(), 3);
        due(25, "three for two flights",
                of(houses + "flight a 0 rise 1 odds 0;flight a 1 rise 1 odds 0;" + people[0] + people[1] + people[3]).watch(), 7);
        StairGang y = of(houses + "flight a 0 rise 1 odds 0;flight a 1 rise 1 odds 0;" + people[0] + people[1] + people[3]);
        y.steal(1);
        due(25, "what is gone needs none", y.watch(), 3);
        due(25, "the fewest, though another set is less", of(houses + "flight a 0 rise 1 odds 0;flight b 0 rise 1 odds 0;" + people[1] + people[4]
                + people[0] + people[2]).watch(), 12);
    }

    private static int restsOf(StairGang x, int one, int other, int flight, int what) {
        try {
            return x.rests(one, other, flight, what);
        } catch (NoSuchElementException e) {
            return -77;
        }
    }

    private static void rests() {
        StairGang x = of("house a floors 2;flight a 0 rise 10 odds 0;flight a 1 rise 9 odds 0;hill k rise 10 pays 4;hill l rise 20 pays 5;"
                + "hill m rise 1 pays 0;hill n rise 10 pays 5;");
        // of flight 0, k has 4 and l has 5 / 2 = 2: alike bids rest where l would not rather outbid (1 or more) nor k leave it (4 or less)
        due(26, "k and l: how many", restsOf(x, 0, 1, 0, -1), 4);
        due(26, "k and l: 1, 1", restsOf(x, 0, 1, 0, 0), 11);
        due(26, "k and l: 2, 2", restsOf(x, 0, 1, 0, 1), 22);
        due(26, "k and l: 3, 3", restsOf(x, 0, 1, 0, 2), 33);
        due(26, "k and l: 4, 4", restsOf(x, 0, 1, 0, 3), 44);
        due(26, "none such", restsOf(x, 0, 1, 0, 4), -77);
        due(26, "none such", restsOf(x, 0, 1, 0, -2), -77);
        // of flight 1, k has 2 and l has 2
        due(26, "alike: how many", restsOf(x, 0, 1, 1, -1), 3);
        due(26, "alike: 1, 1", restsOf(x, 0, 1, 1, 0), 11);
        due(26, "alike: 1, 2, by which both get 0", restsOf(x, 0, 1, 1, 1), 12);
        due(26, "alike: 2, 2", restsOf(x, 0, 1, 1, 2), 22);
        // m has 0, n has 5 of flight 0: n bids one more than m, who bids no less than 0 and gets nothing
        due(26, "m and n: 0, 1 first", restsOf(x, 2, 3, 0, 0), 1);
        due(26, "m and n: 1, 2", restsOf(x, 2, 3, 0, 1), 12);
        due(26, "the same HILL", restsOf(x, 1, 1, 0, -1), -77);
        due(26, "no HILL", restsOf(x, 4, 1, 0, -1), -77);
        due(26, "no HILL", restsOf(x, 1, -1, 0, -1), -77);
        due(26, "no flight", restsOf(x, 0, 1, 2, -1), -77);
        due(26, "no flight", restsOf(x, 0, 1, -1, -1), -77);
        x.steal(1);
        due(26, "not there", restsOf(x, 0, 1, 1, -1), -77);
        due(26, "the other is", restsOf(x, 0, 1, 0, -1), 4);
        StairGang y = of("house a floors 1;flight a 0 rise 10 odds 0;hill k rise 10 pays 99;hill l rise 10 pays 99;hill m rise 10 pays 98;");
        due(26, "bids end at 9", restsOf(y, 0, 1, 0, -1), 1);
        due(26, "9, 9", restsOf(y, 0, 1, 0, 0), 99);
        due(26, "9, 9", restsOf(y, 2, 1, 0, 0), 99);
        StairGang z = of("house a floors 1;flight a 0 rise 11 odds 0;hill k rise 10 pays 4;hill l rise 20 pays 5;");
        due(26, "a rise above its own is worth all, as an equal one is", restsOf(z, 0, 1, 0, -1), 4);
        due(26, "4, 4", restsOf(z, 0, 1, 0, 3), 44);
    }

    private static void live() {
        StairGang x = of("house a floors 2;house b floors 1;flight a 0 rise 10 odds 3;flight a 1 rise 10 odds 0;flight b 0 rise 2 odds 10;"
                + "person p at b 1 reach 2 throws 0 wants a 2;");
        due(27, "one night", x.live(0, 0, 1), 700000);
        due(27, "two", x.live(0, 0, 2), 490000);
        due(27, "nine, cut night by night", x.live(0, 0, 9), 40352);
        due(27, "from above it", x.live(0, 1, 9), 1000000);
        due(27, "where he is", x.live(0, 7, 1), 700000);
        due(27, "he climbs b 0", x.live(0, 6, 1), 700000);
        due(27, "no PLACE", x.live(0, 3, 1), -1);
        due(27, "no PLACE", x.live(0, -1, 1), -1);
        due(27, "no PLACE", x.live(0, 12, 1), -1);
        due(27, "others", x.live(1, 0, 1), -1);
        due(27, "others", x.live(-1, 0, 1), -1);
        due(27, "others", x.live(0, 0, 0), -1);
        due(27, "others", x.live(0, 0, 10), -1);
        due(28, "the first of the best", x.best(0, 1), 1);
        due(28, "others", x.best(1, 1), -1);
        due(28, "others", x.best(-1, 1), -1);
        due(28, "others", x.best(0, 0), -1);
        due(28, "others", x.best(0, 10), -1);
        x.steal(1);
        due(27, "what is gone is gone", x.live(0, 1, 1), 0);
        due(28, "where he wants to be", x.best(0, 1), 2);
        StairGang y = of("house a floors 2;flight a 0 rise 10 odds 1;flight a 1 rise 10 odds 2;person p at a 0 reach 0 throws 0 wants a 2;");
        due(27, "both: 531441 and 262144, cut", y.live(0, 0, 6), 531441L * 262144L / 1000000L);
        due(27, "all sets, each cut: a little less than all", y.live(0, 1, 6),
                531441L * 262144L / 1000000L + 468559L * 262144L / 1000000L);
        due(27, "all sets", y.live(0, 2, 6), 531441L * 262144L / 1000000L + 468559L * 262144L / 1000000L
                + 531441L * 737856L / 1000000L + 468559L * 737856L / 1000000L);
        StairGang z = of("house a floors 1;house b floors 1;person p at a 0 reach 0 throws 0 wants b 0;");
        due(27, "no flights: all", z.live(0, 0, 3), 1000000);
        due(27, "no flights: nothing", z.live(0, 1, 3), 0);
        due(28, "the street", z.best(0, 3), 0);
        StairGang w = of("house a floors 1;house b floors 1;person p at a 0 reach 0 throws 0 wants b 1;");
        due(28, "his own wish", w.best(0, 3), 7);
        StairGang v = of("house a floors 1;flight a 0 rise 5 odds 5;thing t lifts 5 at a 0;person p at a 0 reach 0 throws 0 wants a 1;");
        due(27, "the first THING lifts him, whatever is stolen", v.live(0, 0, 1), 1000000);
        due(28, "so the street is as good as his wish", v.best(0, 1), 0);
    }

    private static void years() {
        StairGang x = of("house a floors 2;flight a 0 rise 5 odds 10;flight a 1 rise 7 odds 10;person p at a 0 reach 0 throws 0 wants a 1;"
                + "person q at a 0 reach 0 throws 0 wants a 0;price high+nights*10+gone;");
        due(29, "one night: the upper one alone", x.years(0, 1, 0), 7);
        due(29, "one night: left", x.years(0, 1, 1), 1);
        due(29, "one night: nobody", x.years(0, 1, 2), 0);
        due(29, "two: then the lower one", x.years(9999, 2, 0), 7 + 5 + 10 + 1);
        due(29, "two: left", x.years(9999, 2, 1), 0);
        due(29, "hundred: from the second on", x.years(77, 100, 2), 99);
        x.night();
        x.steal(1);
        due(29, "from now on, and sold by these alone", x.years(0, 1, 0), 5 + 10 + 1);
        due(29, "all stays: sold", x.count(7), 17);
        due(29, "all stays: there", x.count(8), 1);
        due(29, "all stays: nights", x.count(6), 1);
        due(29, "all stays: undo", x.count(11), 2);
        due(29, "others", x.years(-1, 1, 0), -1);
        due(29, "others", x.years(10000, 1, 0), -1);
        due(29, "others", x.years(0, 0, 0), -1);
        due(29, "others", x.years(0, 101, 0), -1);
        due(29, "others", x.years(0, 1, 3), -1);
        due(29, "others", x.years(0, 1, -1), -1);
        // SEED 0 draws 0 (of g 12345), 21468, 9988, 22117, 3498, 16927, 16045, 19741
        StairGang y = of("house a floors 1;house b floors 1;flight a 0 rise 5 odds 1;flight b 0 rise 7 odds 8;heap 5;");
        due(29, "0 < 1 is stolen; 8 is not below 8; 9988 by 4 leaves 0: built", y.years(0, 1, 0), 5);
        due(29, "built again", y.years(0, 1, 1), 2);
        due(29, "22117: 7 is not; 3498: 8 is not; 16927 by 4 leaves 3", y.years(0, 2, 1), 2);
        StairGang z = of("house a floors 1;house b floors 1;flight a 0 rise 5 odds 1;flight b 0 rise 4 odds 9;heap 4;");
        due(29, "the first one that is gone is too dear, and no other is built", z.years(0, 1, 1), 0);
        // SEED 3 draws 17747, 7107, 10365, 8312
        StairGang w = of("house a floors 1;house b floors 1;house c floors 1;flight a 0 rise 5 odds 0;flight b 0 rise 6 odds 0;"
                + "flight c 0 rise 7 odds 6;heap 9;");
        due(29, "10365: 5 is below 6: the third is stolen", w.years(3, 1, 0), 7);
        due(29, "8312 by 4 leaves 0: the first one gone, behind two that are there, is built", w.years(3, 1, 1), 3);
    }

    private static void marks() {
        StairGang x = of("house a floors 1;flight a 0 rise 5 odds 0;thing t lifts 1 at a 0;person p at a 0 reach 0 throws 0 wants a 1;heap 5;");
        due(30, "nothing is on it", x.mark(3, true), false);
        due(30, "none such", x.mark(4, false), false);
        due(30, "none such", x.mark(-1, false), false);
        due(30, "none such", x.mark(4, true), false);
        x.night();
        x.see(0, 1, true);
        nights(x, "night;night;");
        due(30, "laid", x.mark(3, false), true);
        due(30, "what can be undone stays", x.count(11), 1);
        x.carry(0, 0, 1);
        x.steal(0);
        x.build(0);
        x.night();
        x.see(0, 0, true);
        nights(x, "steal a 0;");
        due(30, "another one", x.mark(0, false), true);
        due(30, "back", x.mark(3, true), true);
        int[] want = {1, 1, 1, 1, 0, 5, 1, 0, 1, 2, 1, 0, 0};
        for (int what = 0; what < want.length; what++) {
            due(30, "back: count " + what, x.count(what), want[what]);
        }
        due(30, "back: person", x.person(0, 0), 0);
        due(30, "back: thing", x.thing(0), 0);
        due(30, "back: NIGHTS", x.judged(2), 0);
        due(30, "nothing can be undone", x.undo(), false);
        due(30, "the other one", x.mark(0, true), true);
        due(30, "the other one: heap", x.count(5), 0);
        due(30, "the other one: NIGHTS", x.judged(2), 5);
        due(30, "the other one: thing", x.thing(0), 1);
        due(30, "once more", x.mark(3, true), true);
        x.night();
        due(30, "laid over", x.mark(3, false), true);
        x.night();
        x.mark(3, true);
        due(30, "laid over: nights", x.count(6), 2);
    }

    private static void counts() {
        StairGang x = of("house a floors 2;house b floors 1;flight a 0 rise 5 odds 0;flight a 1 rise 4 odds 0;flight b 0 rise 4 odds 0;"
                + "thing t lifts 1 at a 0;thing u lifts 1 at a 0;thing v lifts 1 at a 0;thing w lifts 1 at a 0;"
                + "person p at a 0 reach 0 throws 0 wants a 1;hill k rise 1 pays 1;hill l rise 1 pays 1;heap 77;");
        x.steal(1);
        x.night();
        x.night();
        x.see(0, 0, true);
        nights(x, "night;");
        feedText(x, "abc");
        int[] want = {2, 3, 4, 1, 2, 77, 2, 4, 2, 1, 1, 3, 3};
        for (int what = 0; what < want.length; what++) {
            due(31, "count " + what, x.count(what), want[what]);
        }
        due(31, "count 13", x.count(13), -1);
        due(31, "count -1", x.count(-1), -1);
    }
}
