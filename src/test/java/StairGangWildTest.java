import java.util.NoSuchElementException;
import java.util.Random;

/** Calls of all kinds with arguments of all kinds: nothing is ever thrown but what the document names. */
public final class StairGangWildTest {
    private static final int[] ODD = {Integer.MIN_VALUE, Integer.MIN_VALUE + 1, -1000000, -31, -7, -2, -1, 0, 1, 2, 3, 4, 5, 6, 7, 8, 9, 10,
        11, 12, 13, 29, 30, 31, 32, 33, 64, 100, 999, 1023, 1024, 9999, 10000, Integer.MAX_VALUE - 1, Integer.MAX_VALUE};
    private static final String[] BITS = {"house a floors 5;", "house b floors 2;", "flight a 0 rise 9 odds 3;", "flight a 1 rise 4 odds 9;",
        "flight b 0 rise 9 odds 3;", "thing t lifts 5 at a 0;", "person p at a 1 reach 3 throws 3 wants b 1;",
        "person q at b 0 reach 3 throws 3 wants a 2;", "hill k rise 9 pays 9;", "hill l rise 9 pays 9;", "heap 60;", "walk 3;",
        "price high*high-gone or nights;", "price ((((1))));", "steal a 1;", "build a 1;", "go p a 0;", "carry p t b 0;", "night;",
        "99999", "abcdefghijklmnop", "(", ")", "not ", "and ", "+", ";", " ", "\n", "~", "high", "0", "price not not not not 1;"};

    public static void main(String[] args) {
        int wrong = 0;
        for (int seed = 0; seed < 400; seed++) {
            Random random = new Random(seed);
            StairGang x = new StairGang();
            for (int call = 0; call < 512; call++) {
                int kind = random.nextInt(40);
                try {
                    call(x, random, kind);
                } catch (NoSuchElementException e) {
                    if (kind != 25) {
                        wrong++;
                        System.out.println("seed " + seed + ", call " + call + ": kind " + kind + " threw " + e);
                    }
                } catch (RuntimeException e) {
                    wrong++;
                    System.out.println("seed " + seed + ", call " + call + ": kind " + kind + " threw " + e);
                }
            }
        }
        System.out.println(wrong == 0 ? "nothing was thrown that should not be" : wrong + " calls threw");
        if (wrong != 0) {
            System.exit(1);
        }
    }

    private static int odd(Random random) {
        return random.nextInt(3) == 0 ? ODD[random.nextInt(ODD.length)] : random.nextInt(12);
    }

    private static void call(StairGang x, Random random, int kind) {
        int a = odd(random);
        int b = odd(random);
        int c = odd(random);
        int d = odd(random);
        switch (kind) {
            case 0: x.town(); break;
            case 1: x.nights(); break;
            case 2: x.feed(random.nextLong(), random.nextLong(), random.nextLong()); break;
            case 3: x.flight(a, b); break;
            case 4: x.person(a, b); break;
            case 5: x.thing(a); break;
            case 6: x.reach(a); break;
            case 7: x.cost(a, b); break;
            case 8: x.cut(); break;
            case 9: x.steal(a); break;
            case 10: x.build(a); break;
            case 11: x.go(a, b); break;
            case 12: x.carry(a, b, c); break;
            case 13: x.night(); break;
            case 14: x.undo(); break;
            case 15: x.judged(a); break;
            case 16: x.alone(a); break;
            case 17: x.plan(a); break;
            case 18: x.thefts(a, b, c); break;
            case 19: x.see(a, b, random.nextBoolean()); break;
            case 20: x.fits(a); break;
            case 21: x.orders(a); break;
            case 22: x.post(a, b); break;
            case 23: x.watch(); break;
            case 24: x.mark(a, random.nextBoolean()); break;
            case 25: x.rests(a, b, c, d); break;
            case 26: x.live(a, b, c); break;
            case 27: x.best(a, b); break;
            case 28: x.years(a, b, c); break;
            case 29: x.count(a); break;
            case 30:
                x.town();
                StringBuilder whole = new StringBuilder();
                for (int i = 0; i < 13; i++) {
                    whole.append(random.nextInt(8) == 0 ? "" : BITS[i]);
                }
                feed(x, whole.toString());
                x.town();
                break;
            default: feed(x, BITS[random.nextInt(BITS.length)]); break;
        }
    }

    private static void feed(StairGang x, String text) {
        for (int i = 0; i < text.length(); i += 8) {
            long part = 0;
            for (int k = 0; k < 8; k++) {
                part = part << 8 | (i + k < text.length() ? text.charAt(i + k) : 0);
            }
            x.feed(part, 0, 0);
        }
    }
}
