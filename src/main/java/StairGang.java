import java.util.Arrays;
import java.util.NoSuchElementException;

/** Towns whose flights of steps are stolen by night, and what that does to who lives there. */
public final class StairGang {
    public static final int NONE = -1;

    private static final int TAPE = 1000;

    // The kinds of what a TOWN tells, numbered as count() asks for them.
    private static final int HOUSES = 0;
    private static final int FLIGHTS = 1;
    private static final int THINGS = 2;
    private static final int PEOPLE = 3;
    private static final int HILLS = 4;
    private static final int[] MOST = {5, 10, 4, 5, 4};

    private static final int FLOORS = 6;
    private static final int PLACES = 30;

    // The columns of a flight and of a PERSON, numbered as flight() and person() ask for them.
    private static final int HOUSE = 0;
    private static final int FROM = 1;
    private static final int RISE = 2;
    private static final int ODDS = 3;
    private static final int PLACE = 0;
    private static final int REACH = 1;
    private static final int THROWS = 2;
    private static final int WANTS = 3;

    // The columns of a THING and of a HILL.
    private static final int LIFTS = 0;
    private static final int AT = 1;
    private static final int HEIGHT = 0;
    private static final int PAYS = 1;

    /** A way that asks for flights which no TOWN can tell, so that no set of flights ever has them all. */
    private static final int NO_WAY = -1;

    private static final int UNLIKE = -2;
    private static final int MARKS = 4;
    private static final int BIDS = 10;
    private static final int MILLION = 1000000;

    private final Tokens tokens = new Tokens();
    private final TownReader townReader = new TownReader(tokens);
    private final NightsReader nightsReader = new NightsReader(tokens);
    private Town told = new Town();
    private Town draft = new Town();
    private final State now = new State();
    private final State trial = new State();
    private final Said said = new Said();
    private final History history = new History();
    private final State[] markStates = new State[MARKS];
    private final Said[] markSaid = new Said[MARKS];
    private int marksLaid;
    private final int[] lacks = new int[MOST[PEOPLE]];
    private final Orders packing = new Orders();
    private final Chances chances = new Chances();
    private long drawn;

    public StairGang() {
        for (int i = 0; i < MARKS; i++) {
            markStates[i] = new State();
            markSaid[i] = new Said();
        }
    }

    public int feed(long a, long b, long c) {
        tokens.feedEight(a);
        tokens.feedEight(b);
        tokens.feedEight(c);
        return tokens.length;
    }

    public int town() {
        int fault = townReader.read(draft);
        tokens.length = 0;
        if (fault == 0) {
            Town old = told;
            told = draft;
            draft = old;
            now.begin(told);
            said.clear();
            history.clear();
            marksLaid = 0;
        }
        return fault;
    }

    public int nights() {
        int fault = nightsReader.read(told);
        tokens.length = 0;
        if (fault == 0) {
            said.tell(nightsReader.lines, nightsReader.count);
        }
        return fault;
    }

    public int flight(int flight, int what) {
        if (!told.has(FLIGHTS, flight) || what < HOUSE || what > ODDS + 1) {
            return NONE;
        }
        return what > ODDS ? now.there >> flight & 1 : told.flights[flight][what];
    }

    public int person(int person, int what) {
        if (!told.has(PEOPLE, person) || what < PLACE || what > WANTS) {
            return NONE;
        }
        return what == PLACE ? now.people[person] : told.people[person][what];
    }

    public int thing(int thing) {
        return told.has(THINGS, thing) ? now.things[thing] : NONE;
    }

    public int reach(int person) {
        if (!told.has(PEOPLE, person)) {
            return NONE;
        }
        int open = now.open(told, person, NONE);
        int bits = 0;
        for (int place = 0; place < PLACES; place++) {
            if ((told.way(now.people[person], place) & ~open) == 0) {
                bits |= 1 << place;
            }
        }
        return bits;
    }

    public int cost(int person, int place) {
        if (!told.has(PEOPLE, person)) {
            return NONE;
        }
        int from = now.people[person];
        int way = told.way(from, place);
        if ((way & ~now.open(told, person, NONE)) != 0) {
            return NONE;
        }
        int street = from / FLOORS == place / FLOORS ? 0 : told.walk;
        return street + told.riseOf(way) + told.riseOf(way & ~now.there);
    }

    public int cut() {
        fillLacks(now);
        return cutBy(now.there);
    }

    public int steal(int flight) {
        trial.copy(now);
        int price = now.steals(told, flight);
        if (price != NONE) {
            history.keep(trial);
        }
        return price;
    }

    public int build(int flight) {
        trial.copy(now);
        int left = now.builds(told, flight);
        if (left != NONE) {
            history.keep(trial);
        }
        return left;
    }

    public boolean go(int person, int place) {
        trial.copy(now);
        boolean can = now.goes(told, person, place);
        if (can) {
            history.keep(trial);
        }
        return can;
    }

    public boolean carry(int person, int thing, int place) {
        trial.copy(now);
        boolean can = now.carries(told, person, thing, place);
        if (can) {
            history.keep(trial);
        }
        return can;
    }

    public int night() {
        history.keep(now);
        now.nights++;
        return now.nights;
    }

    public boolean undo() {
        return history.takeBack(now);
    }

    public int judged(int what) {
        if (what < 0 || what > 2) {
            return UNLIKE;
        }
        int wrong = NONE;
        int strands = NONE;
        trial.begin(told);
        for (int line = 0; line < said.lineCount; line++) {
            if (!trial.does(told, said.lines, line * NightsReader.WIDTH)) {
                wrong = wrong == NONE ? line : wrong;
            } else if (strands == NONE) {
                fillLacks(trial);
                strands = cutBy(trial.there) != 0 ? line : NONE;
            }
        }
        if (what == 2) {
            return trial.sold;
        }
        return what == 0 ? wrong : strands;
    }

    public int alone(int person) {
        if (!told.has(PEOPLE, person)) {
            return NONE;
        }
        int lack = now.lack(told, person, now.people[person]);
        return (lack & ~now.there) == 0 ? lack : 0;
    }

    public int plan(int what) {
        if (what < 0 || what > 1) {
            return NONE;
        }
        fillLacks(now);
        int least = NONE;
        int best = NONE;
        for (int set = 0; set <= told.all(); set++) {
            if ((set & now.there) != 0) {
                continue;
            }
            int rise = told.riseOf(set);
            if (rise <= now.heap && (least == NONE || rise < least) && cutBy(now.there | set) == 0) {
                least = rise;
                best = set;
            }
        }
        return what == 0 ? least : best;
    }

    public int thefts(int many, int cut, int what) {
        if (many < 0 || many > MOST[FLIGHTS] || cut < 0 || cut > MOST[PEOPLE] || what < 0 || what > 1) {
            return NONE;
        }
        fillLacks(now);
        int most = NONE;
        int best = NONE;
        for (int set = 0; set <= told.all(); set++) {
            if ((set & ~now.there) != 0 || Integer.bitCount(set) > many) {
                continue;
            }
            int rise = told.riseOf(set);
            boolean better = rise > most || rise == most && Integer.bitCount(set) < Integer.bitCount(best);
            if (better && told.fromTop(set, now.there) && Integer.bitCount(cutBy(now.there & ~set)) <= cut) {
                most = rise;
                best = set;
            }
        }
        return what == 0 ? most : best;
    }

    public boolean see(int person, int place, boolean came) {
        if (!told.has(PEOPLE, person) || !told.isPlace(place)) {
            return false;
        }
        int way = told.way(now.people[person], place);
        return said.addSeen(way & ~now.climbs(told, person, NONE), came);
    }

    public int fits(int what) {
        if (what < 0 || what > 3) {
            return NONE;
        }
        int sets = 0;
        int inAll = told.all();
        int inSome = 0;
        int smallest = NONE;
        for (int set = 0; set <= told.all(); set++) {
            if (said.isSo(set)) {
                sets++;
                inAll &= set;
                inSome |= set;
                if (smallest == NONE || Integer.bitCount(set) < Integer.bitCount(smallest)) {
                    smallest = set;
                }
            }
        }
        if (what == 0) {
            return sets;
        }
        if (sets == 0) {
            return NONE;
        }
        return what == 1 ? inAll : what == 2 ? inSome : smallest;
    }

    public int orders(int what) {
        int row = what - 2;
        packing.choose(told, told.all() & ~now.there);
        if (what < 0 || row >= packing.count) {
            return UNLIKE;
        }
        packing.pack(told);
        if (what == 0) {
            return packing.pay();
        }
        return what == 1 ? packing.rise() : packing.hillOf(row);
    }

    public int post(int person, int what) {
        if (!told.has(PEOPLE, person) || what < 0 || what > 1) {
            return NONE;
        }
        int rounds = 0;
        int have = 1 << person;
        for (int i = 0; i < MOST[PEOPLE]; i++) {
            int next = afterRound(have);
            if (next == have) {
                break;
            }
            have = next;
            rounds++;
        }
        return what == 0 ? rounds : have;
    }

    public int watch() {
        int best = NONE;
        for (int set = 0; set < 1 << told.counts[PEOPLE]; set++) {
            boolean fewer = best == NONE || Integer.bitCount(set) < Integer.bitCount(best);
            if (fewer && allSeenByTwo(set)) {
                best = set;
            }
        }
        return best;
    }

    public int rests(int one, int other, int flight, int what) throws NoSuchElementException {
        if (!told.has(HILLS, one) || !told.has(HILLS, other) || one == other || !now.isThere(told, flight)) {
            throw new NoSuchElementException("no such HILLS, or no such flight");
        }
        int rest = findRest(told.worth(one, flight), told.worth(other, flight), what);
        if (rest == NONE) {
            throw new NoSuchElementException("no such bids");
        }
        return rest;
    }

    public int live(int person, int place, int nights) {
        if (!told.has(PEOPLE, person) || !told.isPlace(place) || nights < 1 || nights > 9) {
            return NONE;
        }
        chances.spread(told, now.there, nights);
        return chances.ofAll(now.lack(told, person, place));
    }

    public int best(int person, int nights) {
        if (!told.has(PEOPLE, person) || nights < 1 || nights > 9) {
            return NONE;
        }
        chances.spread(told, now.there, nights);
        int climbs = now.climbs(told, person, NONE);
        int most = NONE;
        int best = NONE;
        for (int place = 0; place < PLACES; place++) {
            if (told.isPlace(place)) {
                int chance = chances.ofAll(told.way(place, told.people[person][WANTS]) & ~climbs);
                if (chance > most) {
                    most = chance;
                    best = place;
                }
            }
        }
        return best;
    }

    public int years(int seed, int nights, int what) {
        if (seed < 0 || seed > 9999 || nights < 1 || nights > 100 || what < 0 || what > 2) {
            return NONE;
        }
        trial.copy(now);
        trial.sold = 0;
        drawn = seed;
        fillLacks(trial);
        int cuts = 0;
        for (int i = 0; i < nights; i++) {
            passDrawnNight();
            cuts += Integer.bitCount(cutBy(trial.there));
        }
        if (what == 0) {
            return trial.sold;
        }
        return what == 1 ? Integer.bitCount(trial.there) : cuts;
    }

    public boolean mark(int mark, boolean back) {
        if (mark < 0 || mark >= MARKS) {
            return false;
        }
        if (!back) {
            markStates[mark].copy(now);
            markSaid[mark].copy(said);
            marksLaid |= 1 << mark;
            return true;
        }
        if ((marksLaid >> mark & 1) == 0) {
            return false;
        }
        now.copy(markStates[mark]);
        said.copy(markSaid[mark]);
        history.clear();
        return true;
    }

    public int count(int what) {
        if (what >= HOUSES && what <= HILLS) {
            return told.counts[what];
        }
        switch (what) {
            case 5:
                return now.heap;
            case 6:
                return now.nights;
            case 7:
                return now.sold;
            case 8:
                return Integer.bitCount(now.there);
            case 9:
                return said.lineCount;
            case 10:
                return said.seenCount;
            case 11:
                return history.count;
            case 12:
                return tokens.length;
            default:
                return NONE;
        }
    }

    /** Keeps of each PERSON what he lacks, since one state is asked about many sets of flights. */
    private void fillLacks(State state) {
        for (int i = 0; i < told.counts[PEOPLE]; i++) {
            lacks[i] = state.lack(told, i, state.people[i]);
        }
    }

    /** Who is CUT OFF if just these flights are there; fillLacks comes first. */
    private int cutBy(int there) {
        int bits = 0;
        for (int i = 0; i < told.counts[PEOPLE]; i++) {
            if ((lacks[i] & ~there) != 0) {
                bits |= 1 << i;
            }
        }
        return bits;
    }

    private int afterRound(int have) {
        int bits = have;
        for (int from = 0; from < told.counts[PEOPLE]; from++) {
            for (int to = 0; to < told.counts[PEOPLE]; to++) {
                boolean near = floorsBetween(now.people[from], now.people[to]) <= told.people[from][THROWS];
                if (near && (have >> from & 1) == 1) {
                    bits |= 1 << to;
                }
            }
        }
        return bits;
    }

    private static int floorsBetween(int one, int other) {
        if (one / FLOORS == other / FLOORS) {
            return Math.abs(one - other);
        }
        return one % FLOORS + other % FLOORS + 1;
    }

    private boolean allSeenByTwo(int set) {
        for (int flight = 0; flight < told.counts[FLIGHTS]; flight++) {
            if (now.isThere(told, flight) && Integer.bitCount(set & seersOf(flight)) < 2) {
                return false;
            }
        }
        return true;
    }

    private int seersOf(int flight) {
        int lower = told.lowerOf(flight);
        int bits = 0;
        for (int i = 0; i < told.counts[PEOPLE]; i++) {
            int place = now.people[i];
            boolean onStreet = lower % FLOORS == 0 && place % FLOORS == 0;
            if (place == lower || place == lower + 1 || onStreet) {
                bits |= 1 << i;
            }
        }
        return bits;
    }

    /** The bids at rest of that number, or how many there are if the number is NONE; NONE: none such. */
    private static int findRest(int firstWorth, int secondWorth, int number) {
        int found = 0;
        for (int bids = 0; bids < BIDS * BIDS; bids++) {
            int first = bids / BIDS;
            int second = bids % BIDS;
            if (firstRests(firstWorth, first, second) && secondRests(secondWorth, first, second)) {
                if (found == number) {
                    return bids;
                }
                found++;
            }
        }
        return number == NONE ? found : NONE;
    }

    private static boolean firstRests(int worth, int first, int second) {
        int gets = first >= second ? worth - first : 0;
        for (int bid = 0; bid < BIDS; bid++) {
            if ((bid >= second ? worth - bid : 0) > gets) {
                return false;
            }
        }
        return true;
    }

    private static boolean secondRests(int worth, int first, int second) {
        int gets = second > first ? worth - second : 0;
        for (int bid = 0; bid < BIDS; bid++) {
            if ((bid > first ? worth - bid : 0) > gets) {
                return false;
            }
        }
        return true;
    }

    private void passDrawnNight() {
        for (int flight = 0; flight < told.counts[FLIGHTS]; flight++) {
            if (draw(10) < told.flights[flight][ODDS]) {
                trial.steals(told, flight);
            }
        }
        if (draw(4) == 0) {
            trial.builds(told, firstGone(trial.there));
        }
        trial.nights++;
    }

    private int firstGone(int there) {
        for (int flight = 0; flight < told.counts[FLIGHTS]; flight++) {
            if ((there >> flight & 1) == 0) {
                return flight;
            }
        }
        return NONE;
    }

    private int draw(int below) {
        drawn = (drawn * 1103515245L + 12345L) & 2147483647L;
        return below < 1 ? 0 : (int) (drawn / 65536L % below);
    }

    /** The TAPE, cut into TOKENS one by one; the first FAULT stays, and nothing more is taken behind it. */
    private static final class Tokens {
        static final int WRONG = 1;
        static final int UNKNOWN = 2;
        static final int AGAIN = 3;
        static final int VALUE = 4;
        static final int TOO_MANY = 5;

        static final int HOUSE_WORD = 0;
        static final int FLOORS_WORD = 1;
        static final int FLIGHT_WORD = 2;
        static final int RISE_WORD = 3;
        static final int ODDS_WORD = 4;
        static final int THING_WORD = 5;
        static final int LIFTS_WORD = 6;
        static final int AT_WORD = 7;
        static final int PERSON_WORD = 8;
        static final int REACH_WORD = 9;
        static final int THROWS_WORD = 10;
        static final int WANTS_WORD = 11;
        static final int HILL_WORD = 12;
        static final int PAYS_WORD = 13;
        static final int HEAP_WORD = 14;
        static final int WALK_WORD = 15;
        static final int PRICE_WORD = 16;
        static final int STEAL_WORD = 17;
        static final int BUILD_WORD = 18;
        static final int GO_WORD = 19;
        static final int CARRY_WORD = 20;
        static final int NIGHT_WORD = 21;
        static final int NOT_WORD = 22;
        static final int AND_WORD = 23;
        static final int OR_WORD = 24;
        static final int HIGH_WORD = 25;
        static final int NIGHTS_WORD = 26;
        static final int GONE_WORD = 27;
        private static final int ALL_WORDS = 28;

        /** The words by their numbers above; the facts are words that a NAME may be, too. */
        private static final String TOWN_WORDS =
                "house floors flight rise odds thing lifts at person reach throws wants hill pays heap walk price ";
        private static final String OTHER_WORDS = "steal build go carry night not and or ";
        private static final String FACTS = "high nights gone ";

        private static final String SIGNS = "()<=+-*;";
        private static final int MOST_LETTERS = 8;
        private static final int MOST_DIGITS = 4;

        private static final int NO_TOKEN = 0;
        private static final int END = 1;
        private static final int WORD = 2;
        private static final int NUMBER = 3;
        private static final int SIGN = 4;

        int length;
        int fault;
        private final char[] signs = new char[TAPE];
        private final long[] known = new long[ALL_WORDS];
        private int kind;
        private int place;
        private int end;
        private long word;
        private int key;
        private int number;

        Tokens() {
            int next = learn(TOWN_WORDS, 0);
            next = learn(OTHER_WORDS, next);
            learn(FACTS, next);
        }

        private int learn(String words, int from) {
            int at = from;
            for (int i = 0; i < words.length() && at < ALL_WORDS; i++) {
                char sign = words.charAt(i);
                if (isLetter(sign)) {
                    known[at] = withLetter(known[at], sign);
                } else {
                    at++;
                }
            }
            return at;
        }

        /** Words of up to eight letters are kept as numbers: 1 to 26 for each letter, five bits each. */
        private static long withLetter(long word, char letter) {
            return word << 5 | letter - 'a' + 1;
        }

        private static boolean isLetter(char sign) {
            return sign >= 'a' && sign <= 'z';
        }

        private static boolean isDigit(char sign) {
            return sign >= '0' && sign <= '9';
        }

        void feedEight(long bytes) {
            for (int shift = 56; shift >= 0; shift -= 8) {
                int sign = (int) (bytes >>> shift & 255);
                boolean fits = sign == 10 || sign >= 32 && sign <= 126;
                if (fits && length < TAPE) {
                    signs[length] = (char) sign;
                    length++;
                }
            }
        }

        void begin() {
            fault = 0;
            end = 0;
            next();
        }

        boolean hasMore() {
            return fault == 0 && kind != END;
        }

        void fail(int faultKind) {
            if (fault == 0) {
                fault = faultKind + 16 * place;
            }
        }

        void next() {
            place = end;
            while (place < length && (signs[place] == 10 || signs[place] == ' ')) {
                place++;
            }
            if (place >= length) {
                kind = END;
                end = place;
            } else if (isLetter(signs[place])) {
                cutWord();
            } else if (isDigit(signs[place])) {
                cutNumber();
            } else {
                kind = SIGNS.indexOf(signs[place]) < 0 ? NO_TOKEN : SIGN;
                end = place + 1;
            }
        }

        private void cutWord() {
            word = 0;
            for (end = place; end < length && isLetter(signs[end]); end++) {
                word = withLetter(word, signs[end]);
            }
            kind = end - place > MOST_LETTERS ? NO_TOKEN : WORD;
            key = NONE;
            for (int i = 0; i < ALL_WORDS; i++) {
                if (known[i] == word) {
                    key = i;
                }
            }
        }

        private void cutNumber() {
            number = 0;
            for (end = place; end < length && isDigit(signs[end]); end++) {
                number = number * 10 + signs[end] - '0';
            }
            kind = end - place > MOST_DIGITS ? NO_TOKEN : NUMBER;
        }

        /** The number of the word that comes now; NONE if it is none of those known. */
        int keyHere() {
            return fault == 0 && kind == WORD ? key : NONE;
        }

        boolean isWord(int wanted) {
            return keyHere() == wanted;
        }

        boolean isSign(char wanted) {
            return fault == 0 && kind == SIGN && place < length && signs[place] == wanted;
        }

        boolean isNumber() {
            return fault == 0 && kind == NUMBER;
        }

        void takeWord(int wanted) {
            if (isWord(wanted)) {
                next();
            } else {
                fail(WRONG);
            }
        }

        void takeSign(char wanted) {
            if (isSign(wanted)) {
                next();
            } else {
                fail(WRONG);
            }
        }

        /** The NUMBER that comes now, left there, so that it can still be found wrong; NONE if there is none. */
        int numberHere() {
            if (!isNumber()) {
                fail(WRONG);
                return NONE;
            }
            return number;
        }

        int takeNumber(int least, int most) {
            int taken = numberHere();
            if (taken < least || taken > most) {
                fail(VALUE);
                return NONE;
            }
            next();
            return taken;
        }

        /** The NAME that comes now, left there, so that it can still be found wrong; 0 if there is none. */
        long nameHere() {
            if (fault == 0 && kind == WORD && (key == NONE || key >= HIGH_WORD)) {
                return word;
            }
            fail(WRONG);
            return 0;
        }

        /** The number behind a HOUSE, THING or PERSON told. */
        int takeTold(Town town, int what) {
            int found = town.find(what, nameHere());
            if (found == NONE) {
                fail(UNKNOWN);
            } else {
                next();
            }
            return found;
        }

        /** A HOUSE told and a floor of it: its PLACE; NONE behind a FAULT. */
        int takePlace(Town town) {
            int house = takeTold(town, HOUSES);
            int floor = takeNumber(0, town.floorsOf(house));
            return fault == 0 ? house * FLOORS + floor : NONE;
        }
    }

    /** The law of price, kept as steps in the order in which they are done: numbers as they are, all else below 0. */
    private static final class Price {
        private static final int HIGH = -1;
        private static final int NIGHTS = -2;
        private static final int GONE = -3;
        private static final int NOT = -4;
        private static final int AND = -5;
        private static final int OR = -6;
        private static final int LESS = -7;
        private static final int SAME = -8;
        private static final int PLUS = -9;
        private static final int MINUS = -10;
        private static final int TIMES = -11;

        static final int AND_OR_LEVEL = 0;
        private static final int TEST_LEVEL = 1;
        private static final int SUM_LEVEL = 2;
        private static final int PART_LEVEL = 4;

        private static final int MOST_NUMBER = 9999;
        private static final int DEEPEST = 5;
        /** Four sides can wait on each of the five levels, and one number on top of them. */
        private static final int WAITING = 24;

        private final int[] steps = new int[TAPE];
        private int length;
        private final int[] stack = new int[WAITING];

        void clear() {
            length = 0;
        }

        boolean isTold() {
            return length > 0;
        }

        void beHigh() {
            length = 0;
            add(HIGH);
        }

        private void add(int step) {
            if (length < steps.length) {
                steps[length] = step;
                length++;
            }
        }

        /** Reads what one level joins; each level's sides are of the level behind it, and PARTS are behind all. */
        void readLevel(Tokens tokens, int level, int depth) {
            if (level >= PART_LEVEL) {
                readPart(tokens, depth);
                return;
            }
            readLevel(tokens, level + 1, depth);
            int most = level == TEST_LEVEL ? 1 : TAPE;
            for (int i = 0; i < most; i++) {
                int step = joinHere(tokens, level);
                if (step == 0) {
                    break;
                }
                tokens.next();
                readLevel(tokens, level + 1, depth);
                add(step);
            }
        }

        /** The step of what joins two sides on that level, if it comes now; else 0. */
        private static int joinHere(Tokens tokens, int level) {
            switch (level) {
                case AND_OR_LEVEL:
                    return tokens.isWord(Tokens.AND_WORD) ? AND : tokens.isWord(Tokens.OR_WORD) ? OR : 0;
                case TEST_LEVEL:
                    return tokens.isSign('<') ? LESS : tokens.isSign('=') ? SAME : 0;
                case SUM_LEVEL:
                    return tokens.isSign('+') ? PLUS : tokens.isSign('-') ? MINUS : 0;
                default:
                    return tokens.isSign('*') ? TIMES : 0;
            }
        }

        private void readPart(Tokens tokens, int depth) {
            int fact = factOf(tokens.keyHere());
            boolean not = tokens.isWord(Tokens.NOT_WORD);
            boolean opens = tokens.isSign('(');
            if (fact == 0 && !not && !opens && !tokens.isNumber()) {
                tokens.fail(Tokens.WRONG);
            } else if (depth >= DEEPEST) {
                tokens.fail(Tokens.TOO_MANY);
            } else if (not) {
                tokens.next();
                readPart(tokens, depth + 1);
                add(NOT);
            } else if (opens) {
                tokens.next();
                readLevel(tokens, AND_OR_LEVEL, depth + 1);
                tokens.takeSign(')');
            } else if (fact != 0) {
                tokens.next();
                add(fact);
            } else {
                add(tokens.takeNumber(0, MOST_NUMBER));
            }
        }

        /** The step of a fact; 0 if the word is none. */
        private static int factOf(int key) {
            switch (key) {
                case Tokens.HIGH_WORD:
                    return HIGH;
                case Tokens.NIGHTS_WORD:
                    return NIGHTS;
                case Tokens.GONE_WORD:
                    return GONE;
                default:
                    return 0;
            }
        }

        int valueOf(int high, int nights, int gone) {
            int top = 0;
            for (int i = 0; i < length; i++) {
                int step = steps[i];
                if (step >= GONE && top < WAITING) {
                    stack[top] = step >= 0 ? step : step == HIGH ? high : step == NIGHTS ? nights : gone;
                    top++;
                } else if (step == NOT && top > 0) {
                    stack[top - 1] = stack[top - 1] == 0 ? 1 : 0;
                } else if (top > 1) {
                    top--;
                    stack[top - 1] = joined(step, stack[top - 1], stack[top]);
                }
            }
            return stack[0];
        }

        private static int joined(int step, int left, int right) {
            switch (step) {
                case AND:
                    return left != 0 && right != 0 ? 1 : 0;
                case OR:
                    return left != 0 || right != 0 ? 1 : 0;
                case LESS:
                    return left < right ? 1 : 0;
                case SAME:
                    return left == right ? 1 : 0;
                case PLUS:
                    return left + right;
                case MINUS:
                    return left - right;
                default:
                    return left * right;
            }
        }
    }

    /** What a TOWN tells, which no night changes. */
    private static final class Town {
        private static final int MOST_NAMES = 5;
        private static final int WALK = 5;

        final int[] counts = new int[MOST.length];
        final int[][] flights = new int[MOST[FLIGHTS]][ODDS + 1];
        final int[][] things = new int[MOST[THINGS]][AT + 1];
        final int[][] people = new int[MOST[PEOPLE]][WANTS + 1];
        final int[][] hills = new int[MOST[HILLS]][PAYS + 1];
        int heap;
        int walk;
        final Price price = new Price();
        private final long[] names = new long[MOST.length * MOST_NAMES];
        private final int[] floors = new int[MOST[HOUSES]];
        /** By PLACE: the flight that leads up from there. */
        private final int[] flightUp = new int[PLACES];
        /** By flight: those told above it in its HOUSE. */
        private final int[] above = new int[MOST[FLIGHTS]];

        Town() {
            clear();
            close();
        }

        void clear() {
            Arrays.fill(counts, 0);
            Arrays.fill(names, 0);
            Arrays.fill(flightUp, NONE);
            heap = NONE;
            walk = NONE;
            price.clear();
        }

        /** Puts in what was not told, once all is read. */
        void close() {
            if (heap == NONE) {
                heap = 0;
            }
            if (walk == NONE) {
                walk = WALK;
            }
            if (!price.isTold()) {
                price.beHigh();
            }
            for (int flight = 0; flight < counts[FLIGHTS]; flight++) {
                above[flight] = findAbove(flight);
            }
        }

        private int findAbove(int flight) {
            int bits = 0;
            for (int other = 0; other < counts[FLIGHTS]; other++) {
                boolean sameHouse = flights[other][HOUSE] == flights[flight][HOUSE];
                if (sameHouse && flights[other][FROM] > flights[flight][FROM]) {
                    bits |= 1 << other;
                }
            }
            return bits;
        }

        boolean isFull(int what) {
            return counts[what] >= MOST[what];
        }

        boolean has(int what, int number) {
            return number >= 0 && number < counts[what];
        }

        /** The row of a new one of its kind, which is counted from now on. */
        int addOne(int what) {
            int number = counts[what];
            counts[what]++;
            return number;
        }

        int addNamed(int what, long name) {
            int number = addOne(what);
            names[what * MOST_NAMES + number] = name;
            return number;
        }

        int find(int what, long name) {
            for (int i = 0; i < counts[what]; i++) {
                if (names[what * MOST_NAMES + i] == name) {
                    return i;
                }
            }
            return NONE;
        }

        boolean isTold(long name) {
            for (int i = 0; i < names.length; i++) {
                if (names[i] == name) {
                    return true;
                }
            }
            return false;
        }

        void setFloors(int house, int many) {
            floors[house] = many;
        }

        int floorsOf(int house) {
            return has(HOUSES, house) ? floors[house] : NONE;
        }

        boolean isPlace(int place) {
            return place >= 0 && place % FLOORS <= floorsOf(place / FLOORS);
        }

        int flightFrom(int house, int floor) {
            int place = house * FLOORS + floor;
            return house >= 0 && floor >= 0 && floor < FLOORS && place < PLACES ? flightUp[place] : NONE;
        }

        void setFlight(int flight, int house, int from, int rise, int odds) {
            flights[flight][HOUSE] = house;
            flights[flight][FROM] = from;
            flights[flight][RISE] = rise;
            flights[flight][ODDS] = odds;
            flightUp[house * FLOORS + from] = flight;
        }

        int lowerOf(int flight) {
            return flights[flight][HOUSE] * FLOORS + flights[flight][FROM];
        }

        int all() {
            return (1 << counts[FLIGHTS]) - 1;
        }

        /** The flights between two PLACES: there is but one way, since all HOUSES meet at the street alone. */
        int way(int from, int to) {
            if (!isPlace(from) || !isPlace(to)) {
                return NO_WAY;
            }
            int house = from / FLOORS;
            int other = to / FLOORS;
            if (house == other) {
                return stairs(Math.min(from, to), Math.max(from, to));
            }
            return stairs(house * FLOORS, from) | stairs(other * FLOORS, to);
        }

        private int stairs(int low, int high) {
            int bits = 0;
            for (int place = low; place < high; place++) {
                if (flightUp[place] == NONE) {
                    return NO_WAY;
                }
                bits |= 1 << flightUp[place];
            }
            return bits;
        }

        int riseOf(int set) {
            int rise = 0;
            for (int flight = 0; flight < counts[FLIGHTS]; flight++) {
                if ((set >> flight & 1) == 1) {
                    rise += flights[flight][RISE];
                }
            }
            return rise;
        }

        /** Whether with each flight of the set all those above it are stolen or gone. */
        boolean fromTop(int set, int there) {
            for (int flight = 0; flight < counts[FLIGHTS]; flight++) {
                if ((set >> flight & 1) == 1 && (above[flight] & there & ~set) != 0) {
                    return false;
                }
            }
            return true;
        }

        int worth(int hill, int flight) {
            int pays = hills[hill][PAYS];
            return flights[flight][RISE] >= hills[hill][HEIGHT] ? pays : pays / 2;
        }
    }

    /** Reads the TAPE as a TOWN. */
    private static final class TownReader {
        private final Tokens tokens;

        TownReader(Tokens tokens) {
            this.tokens = tokens;
        }

        int read(Town town) {
            town.clear();
            tokens.begin();
            for (int i = 0; i < TAPE && tokens.hasMore(); i++) {
                switch (tokens.keyHere()) {
                    case Tokens.HOUSE_WORD:
                        readHouse(town);
                        break;
                    case Tokens.FLIGHT_WORD:
                        readFlight(town);
                        break;
                    case Tokens.THING_WORD:
                        readThing(town);
                        break;
                    case Tokens.PERSON_WORD:
                        readPerson(town);
                        break;
                    case Tokens.HILL_WORD:
                        readHill(town);
                        break;
                    case Tokens.HEAP_WORD:
                        takeOnce(town.heap != NONE);
                        town.heap = tokens.takeNumber(0, 999);
                        tokens.takeSign(';');
                        break;
                    case Tokens.WALK_WORD:
                        takeOnce(town.walk != NONE);
                        town.walk = tokens.takeNumber(0, 60);
                        tokens.takeSign(';');
                        break;
                    case Tokens.PRICE_WORD:
                        takeOnce(town.price.isTold());
                        town.price.readLevel(tokens, Price.AND_OR_LEVEL, 0);
                        tokens.takeSign(';');
                        break;
                    default:
                        tokens.fail(Tokens.WRONG);
                        break;
                }
            }
            town.close();
            return tokens.fault;
        }

        private void takeFirst(Town town, int what) {
            if (town.isFull(what)) {
                tokens.fail(Tokens.TOO_MANY);
            } else {
                tokens.next();
            }
        }

        private void takeOnce(boolean toldAlready) {
            if (toldAlready) {
                tokens.fail(Tokens.AGAIN);
            } else {
                tokens.next();
            }
        }

        private long takeNewName(Town town) {
            long name = tokens.nameHere();
            if (town.isTold(name)) {
                tokens.fail(Tokens.AGAIN);
            }
            if (tokens.fault == 0) {
                tokens.next();
            }
            return name;
        }

        private boolean lineEnds() {
            tokens.takeSign(';');
            return tokens.fault == 0;
        }

        private void readHouse(Town town) {
            takeFirst(town, HOUSES);
            long name = takeNewName(town);
            tokens.takeWord(Tokens.FLOORS_WORD);
            int floors = tokens.takeNumber(1, FLOORS - 1);
            if (lineEnds()) {
                town.setFloors(town.addNamed(HOUSES, name), floors);
            }
        }

        private void readFlight(Town town) {
            takeFirst(town, FLIGHTS);
            int house = tokens.takeTold(town, HOUSES);
            if (town.flightFrom(house, tokens.numberHere()) != NONE) {
                tokens.fail(Tokens.AGAIN);
            }
            int from = tokens.takeNumber(0, town.floorsOf(house) - 1);
            tokens.takeWord(Tokens.RISE_WORD);
            int rise = tokens.takeNumber(1, 40);
            tokens.takeWord(Tokens.ODDS_WORD);
            int odds = tokens.takeNumber(0, 10);
            if (lineEnds()) {
                town.setFlight(town.addOne(FLIGHTS), house, from, rise, odds);
            }
        }

        private void readThing(Town town) {
            takeFirst(town, THINGS);
            long name = takeNewName(town);
            tokens.takeWord(Tokens.LIFTS_WORD);
            int lifts = tokens.takeNumber(1, 40);
            tokens.takeWord(Tokens.AT_WORD);
            int at = tokens.takePlace(town);
            if (lineEnds()) {
                int[] row = town.things[town.addNamed(THINGS, name)];
                row[LIFTS] = lifts;
                row[AT] = at;
            }
        }

        private void readPerson(Town town) {
            takeFirst(town, PEOPLE);
            long name = takeNewName(town);
            tokens.takeWord(Tokens.AT_WORD);
            int at = tokens.takePlace(town);
            tokens.takeWord(Tokens.REACH_WORD);
            int reach = tokens.takeNumber(0, 40);
            tokens.takeWord(Tokens.THROWS_WORD);
            int far = tokens.takeNumber(0, 6);
            tokens.takeWord(Tokens.WANTS_WORD);
            int wants = tokens.takePlace(town);
            if (lineEnds()) {
                int[] row = town.people[town.addNamed(PEOPLE, name)];
                row[PLACE] = at;
                row[REACH] = reach;
                row[THROWS] = far;
                row[WANTS] = wants;
            }
        }

        private void readHill(Town town) {
            takeFirst(town, HILLS);
            long name = takeNewName(town);
            tokens.takeWord(Tokens.RISE_WORD);
            int height = tokens.takeNumber(1, 99);
            tokens.takeWord(Tokens.PAYS_WORD);
            int pays = tokens.takeNumber(0, 99);
            if (lineEnds()) {
                int[] row = town.hills[town.addNamed(HILLS, name)];
                row[HEIGHT] = height;
                row[PAYS] = pays;
            }
        }
    }

    /** Reads the TAPE as NIGHTS: rows of a word's number and up to three numbers behind it. */
    private static final class NightsReader {
        static final int MOST_LINES = 40;
        static final int WIDTH = 4;

        final int[] lines = new int[MOST_LINES * WIDTH];
        int count;
        private final Tokens tokens;

        NightsReader(Tokens tokens) {
            this.tokens = tokens;
        }

        int read(Town town) {
            count = 0;
            tokens.begin();
            for (int i = 0; i < TAPE && tokens.hasMore(); i++) {
                readLine(town);
            }
            return tokens.fault;
        }

        private void readLine(Town town) {
            int first = tokens.keyHere();
            if (first < Tokens.STEAL_WORD || first > Tokens.NIGHT_WORD) {
                tokens.fail(Tokens.WRONG);
                return;
            }
            if (count >= MOST_LINES) {
                tokens.fail(Tokens.TOO_MANY);
                return;
            }
            tokens.next();
            int at = count * WIDTH;
            lines[at] = first;
            if (first == Tokens.STEAL_WORD || first == Tokens.BUILD_WORD) {
                lines[at + 1] = takeFlight(town);
            } else if (first == Tokens.GO_WORD) {
                lines[at + 1] = tokens.takeTold(town, PEOPLE);
                lines[at + 2] = tokens.takePlace(town);
            } else if (first == Tokens.CARRY_WORD) {
                lines[at + 1] = tokens.takeTold(town, PEOPLE);
                lines[at + 2] = tokens.takeTold(town, THINGS);
                lines[at + 3] = tokens.takePlace(town);
            }
            tokens.takeSign(';');
            count++;
        }

        private int takeFlight(Town town) {
            int house = tokens.takeTold(town, HOUSES);
            int flight = town.flightFrom(house, tokens.numberHere());
            if (flight == NONE) {
                tokens.fail(Tokens.VALUE);
            } else {
                tokens.next();
            }
            return flight;
        }
    }

    /** How it stands in a TOWN: what the nights and those who live there change. */
    private static final class State {
        private static final int DEAREST = 999;

        int there;
        final int[] people = new int[MOST[PEOPLE]];
        final int[] things = new int[MOST[THINGS]];
        int heap;
        int nights;
        int sold;

        void begin(Town town) {
            there = town.all();
            for (int i = 0; i < people.length; i++) {
                people[i] = town.people[i][PLACE];
            }
            for (int i = 0; i < things.length; i++) {
                things[i] = town.things[i][AT];
            }
            heap = town.heap;
            nights = 0;
            sold = 0;
        }

        void copy(State other) {
            there = other.there;
            System.arraycopy(other.people, 0, people, 0, people.length);
            System.arraycopy(other.things, 0, things, 0, things.length);
            heap = other.heap;
            nights = other.nights;
            sold = other.sold;
        }

        boolean isThere(Town town, int flight) {
            return town.has(FLIGHTS, flight) && (there >> flight & 1) == 1;
        }

        /** The flights whose rise a PERSON overcomes even if they are gone; one THING may lift nothing. */
        int climbs(Town town, int person, int without) {
            int bits = 0;
            for (int flight = 0; flight < town.counts[FLIGHTS]; flight++) {
                int lift = town.people[person][REACH] + liftAt(town, town.lowerOf(flight), without);
                if (town.flights[flight][RISE] <= lift) {
                    bits |= 1 << flight;
                }
            }
            return bits;
        }

        private int liftAt(Town town, int place, int without) {
            int lift = 0;
            for (int i = 0; i < town.counts[THINGS]; i++) {
                if (things[i] == place && i != without) {
                    lift += town.things[i][LIFTS];
                }
            }
            return lift;
        }

        /** The flights by which a PERSON can come up and down now. */
        int open(Town town, int person, int without) {
            return there | climbs(town, person, without);
        }

        /** The flights that must be there for a PERSON to come where he wants, were he at that PLACE. */
        int lack(Town town, int person, int from) {
            return town.way(from, town.people[person][WANTS]) & ~climbs(town, person, NONE);
        }

        int steals(Town town, int flight) {
            if (!isThere(town, flight) || !town.fromTop(1 << flight, there)) {
                return NONE;
            }
            int gone = town.counts[FLIGHTS] - Integer.bitCount(there);
            int value = town.price.valueOf(town.flights[flight][RISE], nights, gone);
            int price = Math.max(0, Math.min(DEAREST, value));
            there &= ~(1 << flight);
            sold += price;
            return price;
        }

        int builds(Town town, int flight) {
            if (!town.has(FLIGHTS, flight) || isThere(town, flight) || heap < town.flights[flight][RISE]) {
                return NONE;
            }
            there |= 1 << flight;
            heap -= town.flights[flight][RISE];
            return heap;
        }

        boolean goes(Town town, int person, int place) {
            if (!town.has(PEOPLE, person)) {
                return false;
            }
            if ((town.way(people[person], place) & ~open(town, person, NONE)) != 0) {
                return false;
            }
            people[person] = place;
            return true;
        }

        boolean carries(Town town, int person, int thing, int place) {
            if (!town.has(PEOPLE, person) || !town.has(THINGS, thing) || things[thing] != people[person]) {
                return false;
            }
            if ((town.way(people[person], place) & ~open(town, person, thing)) != 0) {
                return false;
            }
            people[person] = place;
            things[thing] = place;
            return true;
        }

        /** Does the line of NIGHTS whose row begins there: whether it can be. */
        boolean does(Town town, int[] lines, int at) {
            if (at < 0 || at + NightsReader.WIDTH > lines.length) {
                return false;
            }
            switch (lines[at]) {
                case Tokens.STEAL_WORD:
                    return steals(town, lines[at + 1]) != NONE;
                case Tokens.BUILD_WORD:
                    return builds(town, lines[at + 1]) != NONE;
                case Tokens.GO_WORD:
                    return goes(town, lines[at + 1], lines[at + 2]);
                case Tokens.CARRY_WORD:
                    return carries(town, lines[at + 1], lines[at + 2], lines[at + 3]);
                default:
                    nights++;
                    return true;
            }
        }
    }

    /** The NIGHTS, and what is SEEN, of which all that counts is kept: the flights that the way lacked. */
    private static final class Said {
        private static final int MOST_SEEN = 8;

        final int[] lines = new int[NightsReader.MOST_LINES * NightsReader.WIDTH];
        int lineCount;
        int seenCount;
        private final int[] seenLacks = new int[MOST_SEEN];
        private int seenCame;

        void clear() {
            lineCount = 0;
            seenCount = 0;
            seenCame = 0;
        }

        void copy(Said other) {
            tell(other.lines, other.lineCount);
            seenCount = other.seenCount;
            System.arraycopy(other.seenLacks, 0, seenLacks, 0, MOST_SEEN);
            seenCame = other.seenCame;
        }

        void tell(int[] newLines, int count) {
            System.arraycopy(newLines, 0, lines, 0, lines.length);
            lineCount = count;
        }

        boolean addSeen(int lack, boolean came) {
            if (seenCount >= MOST_SEEN) {
                return false;
            }
            seenLacks[seenCount] = lack;
            seenCame |= came ? 1 << seenCount : 0;
            seenCount++;
            return true;
        }

        /** Whether all SEEN is so if just these flights are there. */
        boolean isSo(int there) {
            for (int i = 0; i < seenCount; i++) {
                boolean comes = (seenLacks[i] & ~there) == 0;
                boolean came = (seenCame >> i & 1) == 1;
                if (comes != came) {
                    return false;
                }
            }
            return true;
        }
    }

    /** How it stood ahead of each of the last sixteen that can be undone. */
    private static final class History {
        private static final int DEEP = 16;

        int count;
        private int next;
        private final State[] states = new State[DEEP];

        History() {
            for (int i = 0; i < DEEP; i++) {
                states[i] = new State();
            }
        }

        void clear() {
            count = 0;
        }

        void keep(State state) {
            states[next].copy(state);
            next = (next + 1) % DEEP;
            count = Math.min(DEEP, count + 1);
        }

        boolean takeBack(State state) {
            if (count == 0) {
                return false;
            }
            next = (next + DEEP - 1) % DEEP;
            count--;
            state.copy(states[next]);
            return true;
        }
    }

    /**
     * ORDERS. Pay, rise and row of a packing are sums over its flights, so they are kept as one number,
     * pay * PAY_UNIT - rise * RISE_UNIT - row, whose greatest is the best one; the row's digits are base 5.
     */
    private static final class Orders {
        private static final int MOST_PACKED = 7;
        private static final int SETS = 128;
        private static final int NO_HILL = 4;
        private static final int BASE = 5;
        private static final long RISE_UNIT = 131072L;
        private static final long PAY_UNIT = 67108864L;

        int count;
        private final int[] packed = new int[MOST_PACKED];
        private final int[] rises = new int[SETS];
        private final int[] weights = new int[SETS];
        private final long[] best = new long[SETS];

        /** Takes the first seven of these flights. */
        void choose(Town town, int gone) {
            count = 0;
            for (int flight = 0; flight < town.counts[FLIGHTS] && count < MOST_PACKED; flight++) {
                if ((gone >> flight & 1) == 1) {
                    packed[count] = flight;
                    count++;
                }
            }
        }

        /** Lets the HILLS choose one behind the other, for each set of flights that could be left to them. */
        void pack(Town town) {
            fillSums(town);
            for (int set = 0; set < 1 << count; set++) {
                best[set] = -(long) NO_HILL * weights[set];
            }
            for (int hill = town.counts[HILLS] - 1; hill >= 0; hill--) {
                for (int set = (1 << count) - 1; set > 0; set--) {
                    best[set] = bestWith(town, hill, set);
                }
            }
        }

        private void fillSums(Town town) {
            int weight = 1;
            for (int i = count - 1; i >= 0; i--) {
                int rise = town.flights[packed[i]][RISE];
                int bit = 1 << count - 1 - i;
                for (int set = 0; set < bit; set++) {
                    rises[set | bit] = rises[set] + rise;
                    weights[set | bit] = weights[set] + weight;
                }
                weight *= BASE;
            }
        }

        private long bestWith(Town town, int hill, int set) {
            long most = best[set];
            for (int given = set; given > 0; given = given - 1 & set) {
                long pay = rises[given] >= town.hills[hill][HEIGHT] ? town.hills[hill][PAYS] : 0;
                long value = pay * PAY_UNIT - rises[given] * RISE_UNIT - (long) hill * weights[given];
                most = Math.max(most, value + best[set ^ given]);
            }
            return most;
        }

        private long whole() {
            return best[(1 << count) - 1];
        }

        int pay() {
            return (int) ((whole() + PAY_UNIT - 1) / PAY_UNIT);
        }

        int rise() {
            return (int) ((pay() * PAY_UNIT - whole()) / RISE_UNIT);
        }

        int hillOf(int row) {
            long digits = (pay() * PAY_UNIT - whole()) % RISE_UNIT;
            for (int i = count - 1; i > row; i--) {
                digits /= BASE;
            }
            int hill = (int) (digits % BASE);
            return hill == NO_HILL ? NONE : hill;
        }
    }

    /** The chances, in millionths, that flights are there still. */
    private static final class Chances {
        private static final int SETS = 1024;

        private final int[] sums = new int[SETS];
        private int able;

        /** Fills in, for each set of flights, the chance that all of it is there still. */
        void spread(Town town, int there, int nights) {
            able = there;
            sums[0] = MILLION;
            for (int flight = 0; flight < town.counts[FLIGHTS]; flight++) {
                boolean isThere = (there >> flight & 1) == 1;
                split(flight, isThere ? stays(town.flights[flight][ODDS], nights) : 0);
            }
            for (int flight = 0; flight < town.counts[FLIGHTS]; flight++) {
                addLarger(1 << flight, 1 << town.counts[FLIGHTS]);
            }
        }

        private static int stays(int odds, int nights) {
            int chance = MILLION;
            for (int i = 0; i < nights; i++) {
                chance = chance * (10 - odds) / 10;
            }
            return chance;
        }

        /** Each set of the flights ahead of this one becomes two: with it, and without it. */
        private void split(int flight, long chance) {
            int bit = 1 << flight;
            for (int set = 0; set < bit; set++) {
                long old = sums[set];
                sums[set | bit] = (int) (old * chance / MILLION);
                sums[set] = (int) (old * (MILLION - chance) / MILLION);
            }
        }

        private void addLarger(int bit, int sets) {
            for (int set = 0; set < sets; set++) {
                if ((set & bit) == 0) {
                    sums[set] += sums[set | bit];
                }
            }
        }

        int ofAll(int lack) {
            return (lack & ~able) == 0 ? sums[lack] : 0;
        }
    }
}
