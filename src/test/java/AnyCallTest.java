import java.util.Random;

/** Any calls with any arguments: none throws, the same calls answer the same, what is refused changes nothing. */
public final class AnyCallTest {
    private static final Check CHECK = new Check();
    private static final int[] ODD = {Integer.MIN_VALUE, Integer.MIN_VALUE + 1, -100000, -5, -3, -2, -1, 5, 6, 7, 9, 10, 24,
        25, 60, 99, 240, 400, 401, 499, 500, 999, 1000, 1023, 1024, 65535, Integer.MAX_VALUE - 1, Integer.MAX_VALUE};
    private static final String SIGNS = "0123456789 ;nswrltgcwnrf";

    private static int any(Random dice) {
        return dice.nextInt(3) > 0 ? dice.nextInt(5) : ODD[dice.nextInt(ODD.length)];
    }

    private static long word(Random dice) {
        long w = dice.nextInt(20) == 0 ? dice.nextLong() : 0;
        for (int i = 0; i < 8; i++) {
            w = w << 8 | SIGNS.charAt(dice.nextInt(SIGNS.length()));
        }
        return w;
    }

    private static int call(PlankBridge x, Random d) {
        switch (d.nextInt(40)) {
            case 0: return x.planks(any(d));
            case 1: return x.rule(any(d), any(d));
            case 2: return x.person(any(d), any(d), any(d), any(d), any(d));
            case 3: return x.told(any(d), any(d));
            case 4: return x.stay(any(d), any(d));
            case 5: return x.hold(any(d), any(d));
            case 6: return d.nextInt(8) == 0 ? x.clear() : 0;
            case 7: return x.type(word(d), any(d));
            case 8: return x.laws();
            case 9: return x.people();
            case 10: return x.count(any(d));
            case 11: return x.fate(any(d), any(d));
            case 12: return x.at(any(d), any(d));
            case 13: return x.gone(any(d), any(d));
            case 14: return x.all(any(d));
            case 15: return x.soonest(any(d), any(d));
            case 16: return x.order(any(d), any(d), any(d));
            case 17: return x.worth(any(d), any(d));
            case 18: return x.waits(any(d));
            case 19: return x.handed(any(d), any(d));
            case 20: return x.ford(any(d));
            case 21: return x.shared(any(d), any(d));
            case 22: return x.late(any(d), any(d), any(d), any(d));
            case 23: return x.other(any(d), any(d));
            case 24: return x.image();
            case 25: return d.nextInt(4) == 0 ? x.restore() : 0;
            case 26: return x.crowd(any(d), any(d), any(d), any(d));
            case 27: return x.sheet(any(d), any(d), any(d));
            case 28: return d.nextInt(4) == 0 ? x.drop(any(d)) : 0;
            case 29: case 30: case 31: return x.item(d.nextInt(4), any(d), d.nextInt(24), any(d));
            case 32: return x.film(any(d), any(d), any(d));
            case 33: return x.sheet(d.nextInt(4), d.nextInt(3), d.nextInt(25));
            case 34: case 35: return x.person(d.nextInt(20), d.nextInt(2), d.nextInt(4), 1 + d.nextInt(20), 1 + d.nextInt(6));
            case 36: return x.crowd(d.nextInt(4), d.nextInt(3), d.nextInt(10), 1 + d.nextInt(2));
            default: return x.film(d.nextInt(4), d.nextInt(3), d.nextInt(16));
        }
    }

    /** A state as the calls that change nothing tell it. */
    private static long state(PlankBridge x) {
        long told = x.all(0) * 31L + x.all(1);
        for (int i = 0; i < 10; i++) {
            for (int what = 0; what < 7; what++) {
                told = told * 31 + x.told(i, what);
            }
        }
        for (int what = 0; what < 6; what++) {
            told = told * 31 + x.at(0, what) + x.ford(0) + x.other(what % 3, 0);
        }
        return told;
    }

    public static void main(String[] args) {
        for (int seed = 1; seed <= 400; seed++) {
            CHECK.part("seed " + seed);
            PlankBridge one = new PlankBridge();
            PlankBridge other = new PlankBridge();
            Random dice = new Random(seed);
            Random same = new Random(seed);
            for (int i = 0; i < 512; i++) {
                long was = state(one);
                int answer = call(one, dice);
                CHECK.due("call " + i + " of the same calls", call(other, same), answer);
                boolean refused = answer == -1 || answer == -3 || answer == -11 || answer == -12 || answer == -13
                        || answer == -14 || answer == -100001;
                CHECK.holds("call " + i + " changes nothing", !refused || state(one) == was);
            }
        }
        CHECK.end();
    }
}
