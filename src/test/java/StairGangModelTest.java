import java.util.ArrayDeque;
import java.util.ArrayList;
import java.util.Arrays;
import java.util.HashMap;
import java.util.List;
import java.util.Map;
import java.util.NoSuchElementException;
import java.util.Random;

/** Random towns, nights and calls, held against a slow model that goes other ways than the class does. */
public final class StairGangModelTest {
    private static int wrong = 0;

    public static void main(String[] args) {
        int runs = args.length > 0 ? Integer.parseInt(args[0]) : 250;
        for (int seed = 0; seed < runs && wrong < 20; seed++) {
            new Run(seed).go();
        }
        for (int seed = 0; seed < runs * 8 && wrong < 20; seed++) {
            faults(seed);
        }
        System.out.println(wrong == 0 ? "the class and the model agree" : wrong + " answers differ");
        if (wrong != 0) {
            System.exit(1);
        }
    }

    static void due(int seed, String call, long got, long want) {
        if (got != want) {
            wrong++;
            System.out.println("seed " + seed + ": " + call + " answered " + got + ", the model " + want);
        }
    }

    static int feed(StairGang x, String text) {
        int length = 0;
        for (int i = 0; i < text.length(); i += 24) {
            long[] parts = new long[3];
            for (int k = 0; k < 24; k++) {
                int sign = i + k < text.length() ? text.charAt(i + k) : 0;
                parts[k / 8] = parts[k / 8] << 8 | sign;
            }
            length = x.feed(parts[0], parts[1], parts[2]);
        }
        return length;
    }

    /** Valid texts with a few tokens or signs changed, read by the class and by the model's reader. */
    static void faults(int seed) {
        Random random = new Random(seed * 31L + 7);
        Model model = Model.random(random);
        StairGang x = new StairGang();
        String text = model.text(random);
        if (text.length() > 1000) {
            return;
        }
        boolean nights = random.nextInt(3) == 0;
        if (nights) {
            feed(x, text);
            due(seed, "town " + text, x.town(), 0);
            text = model.nightsText(random, 1 + random.nextInt(12));
        }
        for (int i = 0; i < 12; i++) {
            String broken = broken(text, random);
            if (broken.length() > 1000) {
                continue;
            }
            RefReader reader = new RefReader(broken);
            int want = nights ? reader.nights(RefReader.of(model)) : reader.town();
            due(seed, "length " + broken, feed(x, broken), broken.length());
            due(seed, (nights ? "nights " : "town ") + broken, nights ? x.nights() : x.town(), want);
            due(seed, "tape", x.count(12), 0);
            if (nights && want == 0) {
                due(seed, "lines", x.count(9), reader.lines);
            }
            if (!nights && want == 0) {
                due(seed, "houses", x.count(0), reader.names.get("house").size());
                due(seed, "people", x.count(3), reader.names.get("person").size());
            }
        }
    }

    static String broken(String text, Random random) {
        String[] bits = {"house", "flight", ";", "0", "1", "5", "6", "41", "999", "1000", "12345", "a", "ha", "pa", "la", "ta",
            "at", "not", "(", ")", "+", "-", "*", "<", "=", "and", "or", "high", "gone", "nights", "night;", "heap 3;", "walk 9;",
            "price high;", "abcdefgh", "abcdefghi", "?", "Z", "\n", "house zz floors 1;", "hill zy rise 1 pays 0;",
            "thing zx lifts 1 at ha 0;", "price not not not not not not high;", "price ((((1+high))));", "price (((((1)))));",
            "price not(not(not 5));", "price not(not(not(5)));", "price 1<2<3;", "price 1<2 and 3=4 or gone;", "price not not not not high;",
            "flight ha 0 rise 3 odds 3;", "flight ha 1 rise 3 odds 3;", "person zw at ha 0 reach 0 throws 0 wants ha 1;"};
        StringBuilder s = new StringBuilder(text);
        int changes = random.nextInt(4);
        for (int i = 0; i < changes && s.length() > 0; i++) {
            int at = random.nextInt(s.length());
            String bit = bits[random.nextInt(bits.length)];
            switch (random.nextInt(6)) {
                case 0:
                    s.insert(at, bit);
                    break;
                case 1:
                    s.deleteCharAt(at);
                    break;
                case 2:
                    s.setLength(at);
                    break;
                case 3:
                    s.setCharAt(at, bit.charAt(0));
                    break;
                case 4:
                    int line = s.indexOf(";", at);
                    s.insert(line < 0 ? s.length() : line + 1, bit);
                    break;
                default:
                    int end = s.indexOf(";", at);
                    s.delete(at, end < 0 ? s.length() : end + 1);
                    break;
            }
        }
        return s.toString();
    }

    /** One object's life: a town, then calls of all kinds, each one held against the model. */
    private static final class Run {
        final int seed;
        final Random random;
        final StairGang x = new StairGang();
        Model m;

        Run(int seed) {
            this.seed = seed;
            this.random = new Random(seed);
        }

        void go() {
            m = new Model();
            String text;
            do {
                m = Model.random(random);
                text = m.text(random);
            } while (text.length() > 1000);
            feed(x, text);
            due(seed, "town " + text, x.town(), 0);
            for (int i = 0; i < 60 && wrong < 20; i++) {
                act();
                ask();
            }
        }

        int person() {
            return random.nextInt(m.people.size() + 2) - (random.nextInt(5) == 0 ? 1 : 0);
        }

        int place() {
            return random.nextInt(8) == 0 ? random.nextInt(40) - 5 : m.places().get(random.nextInt(m.places().size()));
        }

        void act() {
            int f = random.nextInt(m.flights.size() + 2) - (random.nextInt(9) == 0 ? 1 : 0);
            int p = person();
            int t = random.nextInt(m.things.size() + 1);
            int q = place();
            switch (random.nextInt(12)) {
                case 0: case 1: case 2: case 3:
                    due(seed, "steal " + f, x.steal(f), m.byHand("steal", f, 0, 0));
                    break;
                case 4:
                    due(seed, "build " + f, x.build(f), m.byHand("build", f, 0, 0));
                    break;
                case 5:
                    due(seed, "go", x.go(p, q) ? 1 : 0, m.byHand("go", p, q, 0));
                    break;
                case 6:
                    for (int i = 0; i < m.things.size(); i++) {
                        for (int k = 0; k < m.people.size(); k++) {
                            if (m.now.thingAt[i] == m.now.personAt[k] && random.nextInt(2) == 0) {
                                t = i;
                                p = k;
                            }
                        }
                    }
                    due(seed, "carry", x.carry(p, t, q) ? 1 : 0, m.byHand("carry", p, t, q));
                    break;
                case 7:
                    due(seed, "night", x.night(), m.byHand("night", 0, 0, 0));
                    break;
                case 8:
                    int times = random.nextInt(9) == 0 ? 20 : 1;
                    for (int i = 0; i < times; i++) {
                        due(seed, "undo", x.undo() ? 1 : 0, m.undo() ? 1 : 0);
                    }
                    break;
                case 9:
                    boolean came = random.nextInt(3) > 0;
                    due(seed, "see", x.see(p, q, came) ? 1 : 0, m.see(p, q, came) ? 1 : 0);
                    break;
                case 10:
                    int k = random.nextInt(6) - 1;
                    boolean back = random.nextBoolean();
                    due(seed, "mark " + k + back, x.mark(k, back) ? 1 : 0, m.mark(k, back) ? 1 : 0);
                    break;
                default:
                    String nights = m.nightsText(random, random.nextInt(20));
                    if (nights.length() <= 1000) {
                        feed(x, nights);
                        due(seed, "nights " + nights, x.nights(), 0);
                        m.takeNights();
                    }
                    break;
            }
        }

        void ask() {
            for (int what = -1; what < 14; what++) {
                due(seed, "count " + what, x.count(what), m.count(what));
            }
            for (int f = -1; f <= m.flights.size(); f++) {
                for (int what = -1; what < 6; what++) {
                    due(seed, "flight", x.flight(f, what), m.flight(f, what));
                }
            }
            for (int t = -1; t <= m.things.size(); t++) {
                due(seed, "thing", x.thing(t), t < 0 || t >= m.things.size() ? -1 : m.now.thingAt[t]);
            }
            for (int p = -1; p <= m.people.size(); p++) {
                askOf(p);
            }
            due(seed, "cut", x.cut(), m.cutBits(m.now));
            due(seed, "watch", x.watch(), m.watch());
            int what = random.nextInt(4) - 1;
            due(seed, "judged " + what, x.judged(what), m.judged(what));
            due(seed, "plan " + what, x.plan(what), m.plan(what));
            int many = random.nextInt(13) - 1;
            int cut = random.nextInt(8) - 1;
            due(seed, "thefts " + many + "," + cut + "," + what, x.thefts(many, cut, what), m.thefts(many, cut, what));
            what = random.nextInt(6) - 1;
            due(seed, "fits " + what, x.fits(what), m.fits(what));
            if (random.nextInt(6) == 0) {
                for (int k = -1; k < 11; k++) {
                    due(seed, "orders " + k, x.orders(k), m.orders(k));
                }
            }
            askRests();
            int start = random.nextInt(10003) - 1;
            int nights = random.nextInt(20) == 0 ? random.nextInt(104) - 1 : 1 + random.nextInt(20);
            for (int k = -1; k < 4; k++) {
                due(seed, "years " + start + "," + nights + "," + k, x.years(start, nights, k), m.years(start, nights, k));
            }
        }

        void askOf(int p) {
            for (int what = -1; what < 5; what++) {
                due(seed, "person", x.person(p, what), m.person(p, what));
            }
            due(seed, "reach " + p, x.reach(p), m.reach(p));
            int q = place();
            due(seed, "cost " + p + "," + q, x.cost(p, q), m.cost(p, q));
            due(seed, "alone " + p, x.alone(p), m.alone(p));
            int what = random.nextInt(4) - 1;
            due(seed, "post " + p + "," + what, x.post(p, what), m.post(p, what));
            int nights = random.nextInt(12) - 1;
            due(seed, "live " + p + "," + q + "," + nights, x.live(p, q, nights), m.live(p, q, nights));
            if (random.nextInt(8) == 0) {
                due(seed, "best " + p + "," + nights, x.best(p, nights), m.best(p, nights));
            }
        }

        void askRests() {
            int one = random.nextInt(m.hills.size() + 2) - 1;
            int other = random.nextInt(m.hills.size() + 2) - 1;
            int f = random.nextInt(m.flights.size() + 2) - 1;
            for (int what = -2; what < 12; what++) {
                int got;
                try {
                    got = x.rests(one, other, f, what);
                } catch (NoSuchElementException e) {
                    got = -77;
                }
                due(seed, "rests " + one + "," + other + "," + f + "," + what, got, m.rests(one, other, f, what));
            }
        }
    }

    /** Where all is in a town. */
    private static final class Stand {
        boolean[] there;
        int[] personAt;
        int[] thingAt;
        int heap;
        int nights;
        int sold;

        Stand copy() {
            Stand s = new Stand();
            s.there = there.clone();
            s.personAt = personAt.clone();
            s.thingAt = thingAt.clone();
            s.heap = heap;
            s.nights = nights;
            s.sold = sold;
            return s;
        }
    }

    private record Seen(int person, int from, int[] thingAt, int place, boolean came) { }

    private record Line(String word, int a, int b, int c) { }

    private record MarkKept(Stand stand, List<Line> lines, List<Seen> seen) { }

    /** A law of price as a tree. */
    private static final class Law {
        String sign;
        int number;
        Law left;
        Law right;

        static Law random(Random r, int depth) {
            Law law = new Law();
            int kind = r.nextInt(depth <= 0 ? 2 : 10);
            if (kind == 0) {
                law.sign = "n";
                law.number = r.nextInt(4) == 0 ? r.nextInt(10000) : r.nextInt(12);
            } else if (kind == 1) {
                law.sign = new String[] {"high", "nights", "gone"}[r.nextInt(3)];
            } else if (kind == 2) {
                law.sign = "not";
                law.left = random(r, depth - 1);
            } else {
                law.sign = new String[] {"+", "-", "*", "<", "=", "and", "or"}[r.nextInt(7)];
                law.left = random(r, depth - 1);
                law.right = random(r, depth - 1);
            }
            return law;
        }

        static int rank(String sign) {
            switch (sign) {
                case "and": case "or":
                    return 0;
                case "<": case "=":
                    return 1;
                case "+": case "-":
                    return 2;
                case "*":
                    return 3;
                default:
                    return 4;
            }
        }

        /** Text with just the brackets that are needed, so that precedence and order are tried. */
        String text() {
            if (sign.equals("n")) {
                return "" + number;
            }
            if (sign.equals("not")) {
                return "not " + side(left, 4);
            }
            if (left == null) {
                return sign;
            }
            int rank = rank(sign);
            return side(left, rank == 1 ? 2 : rank) + " " + sign + " " + side(right, rank + 1);
        }

        static String side(Law law, int least) {
            return rank(law.sign) >= least ? law.text() : "(" + law.text() + ")";
        }

        /** How deep not and brackets lie in one another in the text. */
        int deep() {
            if (left == null) {
                return 0;
            }
            if (right == null) {
                return 1 + deepOf(left, 4);
            }
            int rank = rank(sign);
            return Math.max(deepOf(left, rank == 1 ? 2 : rank), deepOf(right, rank + 1));
        }

        static int deepOf(Law law, int least) {
            return law.deep() + (rank(law.sign) >= least ? 0 : 1);
        }

        int value(int high, int nights, int gone) {
            int a = left == null ? 0 : left.value(high, nights, gone);
            int b = right == null ? 0 : right.value(high, nights, gone);
            switch (sign) {
                case "n": return number;
                case "high": return high;
                case "nights": return nights;
                case "gone": return gone;
                case "not": return a == 0 ? 1 : 0;
                case "and": return a != 0 && b != 0 ? 1 : 0;
                case "or": return a != 0 || b != 0 ? 1 : 0;
                case "<": return a < b ? 1 : 0;
                case "=": return a == b ? 1 : 0;
                case "+": return a + b;
                case "-": return a - b;
                default: return a * b;
            }
        }
    }

    private static final class Model {
        final List<Integer> houses = new ArrayList<>();
        final List<int[]> flights = new ArrayList<>();
        final List<int[]> things = new ArrayList<>();
        final List<int[]> people = new ArrayList<>();
        final List<int[]> hills = new ArrayList<>();
        int heap = 0;
        int walk = 5;
        boolean heapTold;
        boolean walkTold;
        Law price;
        Stand now;
        Stand first;
        List<Line> lines = new ArrayList<>();
        List<Line> draft = new ArrayList<>();
        List<Seen> seen = new ArrayList<>();
        final ArrayDeque<Stand> past = new ArrayDeque<>();
        final Map<Integer, MarkKept> marks = new HashMap<>();

        static Model random(Random r) {
            Model m = new Model();
            int houses = 1 + r.nextInt(5);
            for (int i = 0; i < houses; i++) {
                m.houses.add(1 + r.nextInt(5));
            }
            int high = r.nextBoolean() ? 40 : 12;
            int flights = r.nextInt(11);
            boolean[] used = new boolean[30];
            for (int i = 0; i < 200 && m.flights.size() < flights; i++) {
                int h = r.nextInt(houses);
                int from = Math.min(r.nextInt(m.houses.get(h)), r.nextInt(m.houses.get(h)));
                if (!used[h * 6 + from] && (from == 0 || used[h * 6 + from - 1] || r.nextInt(5) == 0)) {
                    used[h * 6 + from] = true;
                    m.flights.add(new int[] {h, from, 1 + r.nextInt(high), r.nextInt(11)});
                }
            }
            int things = r.nextInt(5);
            for (int i = 0; i < things; i++) {
                m.things.add(new int[] {1 + r.nextInt(high), m.anyPlace(r)});
            }
            int people = r.nextInt(6);
            for (int i = 0; i < people; i++) {
                m.people.add(new int[] {m.anyPlace(r), r.nextInt(high / (1 + r.nextInt(4)) + 1), r.nextInt(7), m.anyPlace(r)});
            }
            int hills = r.nextInt(5);
            int most = r.nextBoolean() ? 99 : 10;
            for (int i = 0; i < hills; i++) {
                m.hills.add(new int[] {1 + r.nextInt(r.nextBoolean() ? 99 : 30), r.nextInt(most + 1)});
            }
            m.heapTold = r.nextInt(4) > 0;
            m.heap = m.heapTold ? r.nextInt(r.nextInt(3) == 0 ? 1000 : 100) : 0;
            m.walkTold = r.nextBoolean();
            m.walk = m.walkTold ? r.nextInt(61) : 5;
            for (int i = 0; i < 50 && r.nextInt(4) > 0; i++) {
                Law law = Law.random(r, 4);
                if (law.deep() < 5 && law.text().length() < 150) {
                    m.price = law;
                    break;
                }
            }
            m.begin();
            return m;
        }

        int anyPlace(Random r) {
            int h = r.nextInt(houses.size());
            return h * 6 + r.nextInt(houses.get(h) + 1);
        }

        void begin() {
            first = new Stand();
            first.there = new boolean[flights.size()];
            Arrays.fill(first.there, true);
            first.personAt = people.stream().mapToInt(p -> p[0]).toArray();
            first.thingAt = things.stream().mapToInt(t -> t[1]).toArray();
            first.heap = heap;
            now = first.copy();
        }

        static String name(String kind, int i) {
            return kind + (char) ('a' + i);
        }

        static String placeText(int place) {
            return name("h", place / 6) + " " + place % 6;
        }

        String text(Random r) {
            List<String> out = new ArrayList<>();
            for (int i = 0; i < houses.size(); i++) {
                out.add("house " + name("h", i) + " floors " + houses.get(i) + ";");
            }
            for (int[] f : flights) {
                out.add("flight " + name("h", f[0]) + " " + f[1] + " rise " + f[2] + " odds " + f[3] + ";");
            }
            for (int i = 0; i < things.size(); i++) {
                out.add("thing " + name("t", i) + " lifts " + things.get(i)[0] + " at " + placeText(things.get(i)[1]) + " ;");
            }
            for (int i = 0; i < people.size(); i++) {
                int[] p = people.get(i);
                out.add("person " + name("p", i) + " at " + placeText(p[0]) + "reach " + p[1] + " throws " + p[2] + " wants "
                        + placeText(p[3]) + ";");
            }
            for (int i = 0; i < hills.size(); i++) {
                out.add("hill " + name("l", i) + " rise " + hills.get(i)[0] + "pays " + hills.get(i)[1] + ";");
            }
            addAnywhere(out, heapTold ? "heap " + heap + ";" : "", r);
            addAnywhere(out, walkTold ? "walk " + walk + "; " : "", r);
            addAnywhere(out, price != null ? "price " + price.text() + ";" : "", r);
            return String.join(r.nextBoolean() ? "" : "\n", out);
        }

        static void addAnywhere(List<String> out, String line, Random r) {
            if (!line.isEmpty()) {
                out.add(r.nextInt(out.size() + 1), line);
            }
        }

        String nightsText(Random r, int many) {
            draft = new ArrayList<>();
            StringBuilder s = new StringBuilder();
            for (int i = 0; i < many; i++) {
                int kind = r.nextInt(8);
                int place = anyPlace(r);
                if (kind < 4 && !flights.isEmpty()) {
                    int f = r.nextInt(flights.size());
                    String word = kind < 3 ? "steal" : "build";
                    draft.add(new Line(word, f, 0, 0));
                    s.append(word).append(' ').append(placeText(flights.get(f)[0] * 6 + flights.get(f)[1])).append(";");
                } else if (kind < 6 && !people.isEmpty()) {
                    int p = r.nextInt(people.size());
                    if (things.isEmpty() || kind == 4) {
                        draft.add(new Line("go", p, place, 0));
                        s.append("go " + name("p", p) + " " + placeText(place) + ";");
                    } else {
                        int t = r.nextInt(things.size());
                        draft.add(new Line("carry", p, t, place));
                        s.append("carry " + name("p", p) + " " + name("t", t) + " " + placeText(place) + ";");
                    }
                } else {
                    draft.add(new Line("night", 0, 0, 0));
                    s.append("night ; ");
                }
            }
            return s.toString();
        }

        void takeNights() {
            lines = draft;
        }

        List<Integer> places() {
            List<Integer> all = new ArrayList<>();
            for (int h = 0; h < houses.size(); h++) {
                for (int f = 0; f <= houses.get(h); f++) {
                    all.add(h * 6 + f);
                }
            }
            return all;
        }

        boolean isPlace(int place) {
            return places().contains(place);
        }

        boolean isPerson(int p) {
            return p >= 0 && p < people.size();
        }

        boolean isFlight(int f) {
            return f >= 0 && f < flights.size();
        }

        /** Least costs to all PLACES, by going round all edges until nothing changes. */
        int[] costs(int person, int from, boolean[] there, int[] thingAt, int without) {
            int far = 1 << 28;
            int[] cost = new int[30];
            Arrays.fill(cost, far);
            cost[from] = 0;
            for (int round = 0; round < 31; round++) {
                for (int i = 0; i < flights.size(); i++) {
                    int[] f = flights.get(i);
                    int low = f[0] * 6 + f[1];
                    int lift = people.get(person)[1];
                    for (int t = 0; t < things.size(); t++) {
                        lift += thingAt[t] == low && t != without ? things.get(t)[0] : 0;
                    }
                    if (there[i] || f[2] <= lift) {
                        int toll = there[i] ? f[2] : 2 * f[2];
                        cost[low + 1] = Math.min(cost[low + 1], cost[low] + toll);
                        cost[low] = Math.min(cost[low], cost[low + 1] + toll);
                    }
                }
                for (int a = 0; a < houses.size(); a++) {
                    for (int b = 0; b < houses.size(); b++) {
                        cost[b * 6] = Math.min(cost[b * 6], cost[a * 6] + (a == b ? 0 : walk));
                    }
                }
            }
            for (int i = 0; i < 30; i++) {
                cost[i] = cost[i] >= far ? -1 : cost[i];
            }
            return cost;
        }

        boolean comes(int person, int from, int to, boolean[] there, int[] thingAt) {
            return costs(person, from, there, thingAt, -1)[to] >= 0;
        }

        boolean isCut(int person, Stand s, boolean[] there) {
            return !comes(person, s.personAt[person], people.get(person)[3], there, s.thingAt);
        }

        int cutBits(Stand s) {
            return cutBits(s, s.there);
        }

        int cutBits(Stand s, boolean[] there) {
            int bits = 0;
            for (int p = 0; p < people.size(); p++) {
                bits |= isCut(p, s, there) ? 1 << p : 0;
            }
            return bits;
        }

        int reach(int p) {
            if (!isPerson(p)) {
                return -1;
            }
            int[] cost = costs(p, now.personAt[p], now.there, now.thingAt, -1);
            int bits = 0;
            for (int i = 0; i < 30; i++) {
                bits |= cost[i] >= 0 ? 1 << i : 0;
            }
            return bits;
        }

        int cost(int p, int place) {
            return !isPerson(p) || !isPlace(place) ? -1 : costs(p, now.personAt[p], now.there, now.thingAt, -1)[place];
        }

        int steal(Stand s, int f) {
            if (!isFlight(f) || !s.there[f]) {
                return -1;
            }
            int gone = 0;
            for (int i = 0; i < flights.size(); i++) {
                boolean above = flights.get(i)[0] == flights.get(f)[0] && flights.get(i)[1] > flights.get(f)[1];
                if (above && s.there[i]) {
                    return -1;
                }
                gone += i != f && !s.there[i] ? 1 : 0;
            }
            int high = flights.get(f)[2];
            int value = price == null ? high : price.value(high, s.nights, gone);
            value = value < 0 ? 0 : value > 999 ? 999 : value;
            s.there[f] = false;
            s.sold += value;
            return value;
        }

        int build(Stand s, int f) {
            if (!isFlight(f) || s.there[f] || s.heap < flights.get(f)[2]) {
                return -1;
            }
            s.there[f] = true;
            s.heap -= flights.get(f)[2];
            return s.heap;
        }

        int act(Stand s, String word, int a, int b, int c) {
            switch (word) {
                case "steal":
                    return steal(s, a);
                case "build":
                    return build(s, a);
                case "go":
                    if (!isPerson(a) || !isPlace(b) || costs(a, s.personAt[a], s.there, s.thingAt, -1)[b] < 0) {
                        return 0;
                    }
                    s.personAt[a] = b;
                    return 1;
                case "carry":
                    if (!isPerson(a) || b < 0 || b >= things.size() || !isPlace(c) || s.thingAt[b] != s.personAt[a]
                            || costs(a, s.personAt[a], s.there, s.thingAt, b)[c] < 0) {
                        return 0;
                    }
                    s.personAt[a] = c;
                    s.thingAt[b] = c;
                    return 1;
                default:
                    s.nights++;
                    return s.nights;
            }
        }

        static boolean could(String word, int answer) {
            return word.equals("steal") || word.equals("build") ? answer >= 0 : answer > 0;
        }

        int byHand(String word, int a, int b, int c) {
            Stand old = now.copy();
            int answer = act(now, word, a, b, c);
            if (could(word, answer)) {
                past.addLast(old);
                if (past.size() > 16) {
                    past.removeFirst();
                }
            }
            return answer;
        }

        boolean undo() {
            if (past.isEmpty()) {
                return false;
            }
            now = past.removeLast();
            return true;
        }

        boolean see(int p, int place, boolean came) {
            if (!isPerson(p) || !isPlace(place) || seen.size() >= 8) {
                return false;
            }
            seen = new ArrayList<>(seen);
            seen.add(new Seen(p, now.personAt[p], now.thingAt.clone(), place, came));
            return true;
        }

        boolean mark(int k, boolean back) {
            if (k < 0 || k > 3) {
                return false;
            }
            if (!back) {
                marks.put(k, new MarkKept(now.copy(), lines, seen));
                return true;
            }
            MarkKept kept = marks.get(k);
            if (kept == null) {
                return false;
            }
            now = kept.stand().copy();
            lines = kept.lines();
            seen = kept.seen();
            past.clear();
            return true;
        }

        int count(int what) {
            int left = 0;
            for (boolean b : now.there) {
                left += b ? 1 : 0;
            }
            int[] all = {houses.size(), flights.size(), things.size(), people.size(), hills.size(), now.heap, now.nights, now.sold,
                left, lines.size(), seen.size(), past.size(), 0};
            return what < 0 || what >= all.length ? -1 : all[what];
        }

        int flight(int f, int what) {
            if (!isFlight(f) || what < 0 || what > 4) {
                return -1;
            }
            return what == 4 ? (now.there[f] ? 1 : 0) : flights.get(f)[what];
        }

        int person(int p, int what) {
            if (!isPerson(p) || what < 0 || what > 3) {
                return -1;
            }
            return what == 0 ? now.personAt[p] : people.get(p)[what];
        }

        int judged(int what) {
            if (what < 0 || what > 2) {
                return -2;
            }
            Stand s = first.copy();
            int bad = -1;
            int cut = -1;
            for (int i = 0; i < lines.size(); i++) {
                Line line = lines.get(i);
                boolean could = could(line.word(), act(s, line.word(), line.a(), line.b(), line.c()));
                if (!could && bad < 0) {
                    bad = i;
                }
                if (could && cut < 0 && cutBits(s) != 0) {
                    cut = i;
                }
            }
            return what == 0 ? bad : what == 1 ? cut : s.sold;
        }

        int alone(int p) {
            if (!isPerson(p)) {
                return -1;
            }
            int bits = 0;
            for (int f = 0; f < flights.size() && !isCut(p, now, now.there); f++) {
                if (now.there[f]) {
                    boolean[] there = now.there.clone();
                    there[f] = false;
                    bits |= isCut(p, now, there) ? 1 << f : 0;
                }
            }
            return bits;
        }

        static boolean[] rowOf(int set, int many) {
            boolean[] row = new boolean[many];
            for (int i = 0; i < many; i++) {
                row[i] = (set >> i & 1) == 1;
            }
            return row;
        }

        int thereBits() {
            int bits = 0;
            for (int f = 0; f < flights.size(); f++) {
                bits |= now.there[f] ? 1 << f : 0;
            }
            return bits;
        }

        int rise(int set) {
            int sum = 0;
            for (int f = 0; f < flights.size(); f++) {
                sum += (set >> f & 1) * flights.get(f)[2];
            }
            return sum;
        }

        int plan(int what) {
            int there = thereBits();
            int best = -1;
            for (int set = 0; set < 1 << flights.size() && what >= 0 && what < 2; set++) {
                if ((set & there) == 0 && rise(set) <= now.heap && (best < 0 || rise(set) < rise(best))
                        && cutBits(now, rowOf(there | set, flights.size())) == 0) {
                    best = set;
                }
            }
            return best < 0 ? -1 : what == 0 ? rise(best) : best;
        }

        /** By stealing one by one, all ways, instead of by looking at sets. */
        int thefts(int many, int cut, int what) {
            if (many < 0 || many > 10 || cut < 0 || cut > 5 || what < 0 || what > 1) {
                return -1;
            }
            boolean[] reached = new boolean[1 << flights.size()];
            int there = thereBits();
            spread(now, 0, reached, many);
            int best = -1;
            for (int set = 0; set < reached.length; set++) {
                if (reached[set] && Integer.bitCount(cutBits(now, rowOf(there & ~set, flights.size()))) <= cut) {
                    boolean better = best < 0 || rise(set) > rise(best)
                            || rise(set) == rise(best) && Integer.bitCount(set) < Integer.bitCount(best);
                    best = better ? set : best;
                }
            }
            return best < 0 ? -1 : what == 0 ? rise(best) : best;
        }

        void spread(Stand s, int set, boolean[] reached, int left) {
            if (reached[set]) {
                return;
            }
            reached[set] = true;
            for (int f = 0; f < flights.size() && left > 0; f++) {
                Stand next = s.copy();
                if (steal(next, f) >= 0) {
                    spread(next, set | 1 << f, reached, left - 1);
                }
            }
        }

        int fits(int what) {
            if (what < 0 || what > 3) {
                return -1;
            }
            List<Integer> sets = new ArrayList<>();
            for (int set = 0; set < 1 << flights.size(); set++) {
                boolean so = true;
                for (Seen s : seen) {
                    so = so && comes(s.person(), s.from(), s.place(), rowOf(set, flights.size()), s.thingAt()) == s.came();
                }
                if (so) {
                    sets.add(set);
                }
            }
            if (what == 0 || sets.isEmpty()) {
                return what == 0 ? 0 + sets.size() : -1;
            }
            int all = -1;
            int some = 0;
            int small = sets.get(0);
            for (int set : sets) {
                all &= set;
                some |= set;
                small = Integer.bitCount(set) < Integer.bitCount(small) ? set : small;
            }
            return what == 1 ? all : what == 2 ? some : small;
        }

        int orders(int what) {
            List<Integer> gone = new ArrayList<>();
            for (int f = 0; f < flights.size() && gone.size() < 7; f++) {
                if (!now.there[f]) {
                    gone.add(f);
                }
            }
            int n = gone.size();
            if (what < 0 || what >= n + 2) {
                return -2;
            }
            int base = hills.size() + 1;
            int rows = 1;
            for (int i = 0; i < n; i++) {
                rows *= base;
            }
            int bestPay = -1;
            int bestRise = 0;
            int[] best = null;
            int[] row = new int[n];
            for (int code = 0; code < rows; code++) {
                int rest = code;
                int[] given = new int[base];
                int total = 0;
                for (int i = n - 1; i >= 0; i--) {
                    row[i] = rest % base;
                    rest /= base;
                    given[row[i]] += flights.get(gone.get(i))[2];
                    total += row[i] < hills.size() ? flights.get(gone.get(i))[2] : 0;
                }
                int pay = 0;
                for (int h = 0; h < hills.size(); h++) {
                    pay += given[h] >= hills.get(h)[0] ? hills.get(h)[1] : 0;
                }
                if (pay > bestPay || pay == bestPay && total < bestRise) {
                    bestPay = pay;
                    bestRise = total;
                    best = row.clone();
                }
            }
            if (what < 2) {
                return what == 0 ? bestPay : bestRise;
            }
            return best[what - 2] == hills.size() ? -1 : best[what - 2];
        }

        int post(int p, int what) {
            if (!isPerson(p) || what < 0 || what > 1) {
                return -1;
            }
            int[] round = new int[people.size()];
            Arrays.fill(round, -1);
            round[p] = 0;
            ArrayDeque<Integer> queue = new ArrayDeque<>(List.of(p));
            int last = 0;
            int bits = 0;
            while (!queue.isEmpty()) {
                int a = queue.removeFirst();
                last = round[a];
                bits |= 1 << a;
                for (int b = 0; b < people.size(); b++) {
                    int x = now.personAt[a];
                    int y = now.personAt[b];
                    int far = x / 6 == y / 6 ? Math.abs(x % 6 - y % 6) : x % 6 + y % 6 + 1;
                    if (round[b] < 0 && far <= people.get(a)[2]) {
                        round[b] = round[a] + 1;
                        queue.addLast(b);
                    }
                }
            }
            return what == 0 ? last : bits;
        }

        int watch() {
            for (int size = 0; size <= people.size(); size++) {
                for (int set = 0; set < 1 << people.size(); set++) {
                    if (Integer.bitCount(set) == size && watched(set)) {
                        return set;
                    }
                }
            }
            return -1;
        }

        boolean watched(int set) {
            for (int f = 0; f < flights.size(); f++) {
                int eyes = 0;
                for (int p = 0; p < people.size(); p++) {
                    int house = now.personAt[p] / 6;
                    int floor = now.personAt[p] % 6;
                    int from = flights.get(f)[1];
                    boolean sees = house == flights.get(f)[0] && (floor == from || floor == from + 1) || from == 0 && floor == 0;
                    eyes += sees && (set >> p & 1) == 1 ? 1 : 0;
                }
                if (now.there[f] && eyes < 2) {
                    return false;
                }
            }
            return true;
        }

        int rests(int one, int other, int f, int what) {
            if (one < 0 || one >= hills.size() || other < 0 || other >= hills.size() || one == other || !isFlight(f) || !now.there[f]) {
                return -77;
            }
            int[] worth = new int[2];
            for (int i = 0; i < 2; i++) {
                int[] hill = hills.get(i == 0 ? one : other);
                worth[i] = flights.get(f)[2] >= hill[0] ? hill[1] : hill[1] / 2;
            }
            int[][][] get = new int[10][10][2];
            for (int a = 0; a < 10; a++) {
                for (int b = 0; b < 10; b++) {
                    get[a][b] = a >= b ? new int[] {worth[0] - a, 0} : new int[] {0, worth[1] - b};
                }
            }
            List<Integer> rests = new ArrayList<>();
            for (int a = 0; a < 10; a++) {
                for (int b = 0; b < 10; b++) {
                    int bestA = -1000;
                    int bestB = -1000;
                    for (int k = 0; k < 10; k++) {
                        bestA = Math.max(bestA, get[k][b][0]);
                        bestB = Math.max(bestB, get[a][k][1]);
                    }
                    if (get[a][b][0] == bestA && get[a][b][1] == bestB) {
                        rests.add(10 * a + b);
                    }
                }
            }
            if (what == -1) {
                return rests.size();
            }
            return what < 0 || what >= rests.size() ? -77 : rests.get(what);
        }

        int live(int p, int place, int nights) {
            if (!isPerson(p) || !isPlace(place) || nights < 1 || nights > 9) {
                return -1;
            }
            int there = thereBits();
            long sum = 0;
            for (int set = 0; set < 1 << flights.size(); set++) {
                if ((set & ~there) != 0 || !comes(p, place, people.get(p)[3], rowOf(set, flights.size()), now.thingAt)) {
                    continue;
                }
                long chance = -1;
                for (int f = 0; f < flights.size(); f++) {
                    if (now.there[f]) {
                        long stays = 1000000;
                        for (int i = 0; i < nights; i++) {
                            stays = stays * (10 - flights.get(f)[3]) / 10;
                        }
                        long one = (set >> f & 1) == 1 ? stays : 1000000 - stays;
                        chance = chance < 0 ? one : chance * one / 1000000;
                    }
                }
                sum += chance < 0 ? 1000000 : chance;
            }
            return (int) sum;
        }

        int best(int p, int nights) {
            int best = -1;
            int most = -1;
            for (int place : places()) {
                int chance = live(p, place, nights);
                if (chance > most) {
                    most = chance;
                    best = place;
                }
            }
            return best;
        }

        int years(int seed, int nights, int what) {
            if (seed < 0 || seed > 9999 || nights < 1 || nights > 100 || what < 0 || what > 2) {
                return -1;
            }
            Stand s = now.copy();
            long g = seed;
            int cuts = 0;
            int sold = 0;
            for (int n = 0; n < nights; n++) {
                for (int f = 0; f < flights.size(); f++) {
                    g = (g * 1103515245L + 12345L) % 2147483648L;
                    if (g / 65536 % 10 < flights.get(f)[3]) {
                        sold += Math.max(0, steal(s, f));
                    }
                }
                g = (g * 1103515245L + 12345L) % 2147483648L;
                if (g / 65536 % 4 == 0) {
                    for (int f = 0; f < flights.size(); f++) {
                        if (!s.there[f]) {
                            build(s, f);
                            break;
                        }
                    }
                }
                s.nights++;
                cuts += Integer.bitCount(cutBits(s));
            }
            int left = 0;
            for (boolean b : s.there) {
                left += b ? 1 : 0;
            }
            return what == 0 ? sold : what == 1 ? left : cuts;
        }
    }

    private static final class Fault extends RuntimeException {
        private static final long serialVersionUID = 1L;
        final int code;

        Fault(int kind, int place) {
            code = kind + 16 * place;
        }
    }

    /** Reads by tables of lines; what stands in them is matched word for word, or by the slots below. */
    private static final class RefReader {
        private static final List<String> RESERVED = Arrays.asList(("house floors flight rise odds thing lifts at person reach throws "
                + "wants hill pays heap walk price steal build go carry night not and or").split(" "));
        private static final String[] TOWN = {
            "house new floors 1..5 ;", "flight HOUSE from rise 1..40 odds 0..10 ;", "thing new lifts 1..40 at HOUSE floor ;",
            "person new at HOUSE floor reach 0..40 throws 0..6 wants HOUSE floor ;", "hill new rise 1..99 pays 0..99 ;",
            "heap 0..999 ;", "walk 0..60 ;", "price LAW ;"};
        private static final String[] NIGHTS = {
            "steal HOUSE flightfrom ;", "build HOUSE flightfrom ;", "go PERSON HOUSE floor ;", "carry PERSON THING HOUSE floor ;",
            "night ;"};

        final String text;
        final List<String> tokens = new ArrayList<>();
        final List<Integer> places = new ArrayList<>();
        final Map<String, List<String>> names = new HashMap<>();
        final List<Integer> floors = new ArrayList<>();
        final List<Integer> flights = new ArrayList<>();
        final List<String> once = new ArrayList<>();
        int at;
        int lines;

        RefReader(String text) {
            this.text = text;
            for (String kind : new String[] {"house", "thing", "person", "hill"}) {
                names.put(kind, new ArrayList<>());
            }
            java.util.regex.Matcher m = java.util.regex.Pattern.compile("[a-z]+|[0-9]+|[^ \n]").matcher(text);
            while (m.find()) {
                tokens.add(m.group());
                places.add(m.start());
            }
            tokens.add("");
            places.add(text.length());
        }

        static RefReader of(Model model) {
            RefReader r = new RefReader("");
            for (int i = 0; i < model.houses.size(); i++) {
                r.names.get("house").add(Model.name("h", i));
                r.floors.add(model.houses.get(i));
            }
            for (int i = 0; i < model.people.size(); i++) {
                r.names.get("person").add(Model.name("p", i));
            }
            for (int i = 0; i < model.things.size(); i++) {
                r.names.get("thing").add(Model.name("t", i));
            }
            for (int[] f : model.flights) {
                r.flights.add(f[0] * 6 + f[1]);
            }
            return r;
        }

        int town() {
            return read(TOWN, this, false);
        }

        int nights(RefReader town) {
            return read(NIGHTS, town, true);
        }

        String here() {
            return tokens.get(at);
        }

        void fail(int kind) {
            throw new Fault(kind, places.get(at));
        }

        int read(String[] table, RefReader town, boolean nights) {
            try {
                while (!here().isEmpty()) {
                    String line = null;
                    for (String row : table) {
                        line = row.split(" ")[0].equals(here()) ? row : line;
                    }
                    if (line == null) {
                        fail(1);
                    }
                    if (nights && lines == 40) {
                        fail(5);
                    }
                    line(line, town);
                    lines++;
                }
                return 0;
            } catch (Fault fault) {
                return fault.code;
            }
        }

        void line(String line, RefReader town) {
            String word = here();
            Map<String, Integer> most = Map.of("house", 5, "person", 5, "thing", 4, "hill", 4);
            if (most.containsKey(word) && names.get(word).size() == most.get(word) || word.equals("flight") && flights.size() == 10) {
                fail(5);
            }
            if (once.contains(word)) {
                fail(3);
            }
            String name = null;
            int house = -1;
            int from = -1;
            int number = -1;
            for (String slot : line.split(" ")) {
                if (slot.equals("new")) {
                    name = name();
                    for (List<String> told : names.values()) {
                        if (told.contains(name)) {
                            fail(3);
                        }
                    }
                } else if (slot.equals("HOUSE") || slot.equals("PERSON") || slot.equals("THING")) {
                    int found = town.names.get(slot.toLowerCase()).indexOf(name());
                    if (found < 0) {
                        fail(2);
                    }
                    house = slot.equals("HOUSE") ? found : house;
                } else if (slot.equals("from")) {
                    from = number();
                    if (flights.contains(house * 6 + from) && from < 6) {
                        fail(3);
                    }
                    if (from >= floors.get(house)) {
                        fail(4);
                    }
                } else if (slot.equals("floor")) {
                    if (number() > town.floors.get(house)) {
                        fail(4);
                    }
                } else if (slot.equals("flightfrom")) {
                    if (number() > 5 || !town.flights.contains(house * 6 + number())) {
                        fail(4);
                    }
                } else if (slot.contains("..")) {
                    number = number();
                    String[] ends = slot.split("\\.\\.");
                    if (number < Integer.parseInt(ends[0]) || number > Integer.parseInt(ends[1])) {
                        fail(4);
                    }
                } else if (slot.equals("LAW")) {
                    law(0);
                    continue;
                } else if (!slot.equals(here())) {
                    fail(1);
                }
                at++;
            }
            if (name != null) {
                names.get(word).add(name);
            }
            if (word.equals("house")) {
                floors.add(number);
            }
            if (word.equals("flight")) {
                flights.add(house * 6 + from);
            }
            if (word.equals("heap") || word.equals("walk") || word.equals("price")) {
                once.add(word);
            }
        }

        String name() {
            if (!here().matches("[a-z]{1,8}") || RESERVED.contains(here())) {
                fail(1);
            }
            return here();
        }

        int number() {
            if (!here().matches("[0-9]{1,4}")) {
                fail(1);
            }
            return Integer.parseInt(here());
        }

        void law(int deep) {
            test(deep);
            while (here().equals("and") || here().equals("or")) {
                at++;
                test(deep);
            }
        }

        void test(int deep) {
            sum(deep);
            if (here().equals("<") || here().equals("=")) {
                at++;
                sum(deep);
            }
        }

        void sum(int deep) {
            part(deep);
            while (here().equals("+") || here().equals("-") || here().equals("*")) {
                at++;
                part(deep);
            }
        }

        void part(int deep) {
            if (!here().matches("[0-9]{1,4}|high|nights|gone|not|\\(")) {
                fail(1);
            }
            if (deep == 5) {
                fail(5);
            }
            String first = here();
            at++;
            if (first.equals("not")) {
                part(deep + 1);
            } else if (first.equals("(")) {
                law(deep + 1);
                if (!here().equals(")")) {
                    fail(1);
                }
                at++;
            }
        }
    }
}
