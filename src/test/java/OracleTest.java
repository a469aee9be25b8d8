import java.util.Random;

/** Many bridges, each held against the oracle in all that days and what would be tell. */
public final class OracleTest {
    private static final Check CHECK = new Check();

    private static int pick(Random dice, int least, int most) {
        return least + dice.nextInt(most - least + 1);
    }

    private static void layLaws(Random dice, PlankBridge x, Oracle o) {
        if (dice.nextInt(4) > 0) {
            o.first = dice.nextInt(5) == 0 ? pick(dice, 1, 400) : pick(dice, 1, 60);
            x.planks(o.first);
        }
        int[] most = {9, 2, 60, 50, 99, 200};
        int[] few = {3, 2, 8, 20, 6, 15};
        for (int what = 0; what < 6; what++) {
            if (dice.nextInt(3) > 0) {
                int least = what == 2 ? 1 : 0;
                o.laws[what] = pick(dice, least, dice.nextInt(3) == 0 ? most[what] : few[what]);
                x.rule(what, o.laws[what]);
            }
        }
    }

    private static void send(Random dice, PlankBridge x, Oracle o) {
        int n = pick(dice, 0, 10);
        boolean slow = dice.nextInt(3) == 0;
        for (int i = 0; i < n; i++) {
            int minute = dice.nextInt(4) == 0 ? pick(dice, 0, 499) : pick(dice, 0, 6);
            int[] one = {minute, pick(dice, 0, 1), pick(dice, 0, 3), slow ? pick(dice, 1, 3) : pick(dice, 1, 20),
                pick(dice, 1, 6), 0, -1};
            CHECK.due("person", x.person(one[0], one[1], one[2], one[3], one[4]), i);
            o.people.add(one);
        }
        for (int i = 0; i < n; i++) {
            if (dice.nextBoolean()) {
                int stay = dice.nextInt(3) == 0 ? pick(dice, 0, 60) : pick(dice, 0, 4);
                x.stay(i, stay);
                o.people.get(i)[5] = stay;
            }
            if (n > 1 && dice.nextBoolean()) {
                int other = (i + 1 + dice.nextInt(n - 1)) % n;
                CHECK.due("hold", x.hold(i, other), 0);
                o.people.get(i)[6] = other;
            }
        }
    }

    private static void days(PlankBridge x, Oracle o) {
        o.run(null);
        int fords = 0;
        for (int i = 0; i < o.size(); i++) {
            CHECK.due("fate(" + i + ", 0)", x.fate(i, 0), o.over[i] == 1000 ? -4 : o.over[i]);
            CHECK.due("fate(" + i + ", 1)", x.fate(i, 1), o.made[i]);
            CHECK.due("fate(" + i + ", 2)", x.fate(i, 2), o.fords[i]);
            CHECK.due("fate(" + i + ", 3)", x.fate(i, 3), o.waited[i]);
            CHECK.due("fate(" + i + ", 4)", x.fate(i, 4), o.ropeless[i]);
            fords += o.fords[i];
        }
        for (int m = 0; m <= Oracle.LAST; m += m < 40 || m > 990 ? 1 : 13) {
            for (int what = 0; what < 6; what++) {
                CHECK.due("at(" + m + ", " + what + ")", x.at(m, what), o.at[m][what]);
            }
            for (int i = 0; i < o.size(); i++) {
                CHECK.due("gone(" + i + ", " + m + ")", x.gone(i, m), o.gone[m][i]);
            }
        }
        CHECK.due("all(0)", x.all(0), o.at[Oracle.LAST][0]);
        CHECK.due("all(1)", x.all(1), o.sum());
        CHECK.due("all(2)", x.all(2), o.last());
        CHECK.due("all(3)", x.all(3), o.counted);
        CHECK.due("all(4)", x.all(4), fords);
    }

    private static void whatWouldBe(PlankBridge x, Oracle o) {
        o.run(null);
        int asItIs = o.sum();
        int best = Integer.MIN_VALUE;
        int[] pair = {0, 0};
        for (int i = 0; i < o.size(); i++) {
            for (int k = 0; k < o.size(); k++) {
                if (i != k) {
                    int worth = asItIs - o.sumIfHolds(i, k);
                    CHECK.due("worth(" + i + ", " + k + ")", x.worth(i, k), worth);
                    if (worth > best) {
                        best = worth;
                        pair = new int[] {i, k};
                    }
                }
            }
        }
        CHECK.due("waits(0)", x.waits(0), o.size() < 2 ? -2 : pair[0]);
        CHECK.due("waits(1)", x.waits(1), o.size() < 2 ? -2 : pair[1]);
        int was = o.laws[1];
        for (int count = 0; count < 3; count++) {
            o.laws[1] = count;
            o.run(null);
            CHECK.due("other(" + count + ", 0)", x.other(count, 0), o.at[Oracle.LAST][0]);
            CHECK.due("other(" + count + ", 1)", x.other(count, 1), o.sum());
        }
        o.laws[1] = was;
    }

    private static void rowsOf(Random dice, PlankBridge x, Oracle o) {
        int some = dice.nextInt(1 << o.size());
        if (some == 0 || Integer.bitCount(some) > 6) {
            return;
        }
        int[] who = new int[Integer.bitCount(some)];
        int n = 0;
        for (int i = 0; i < o.size(); i++) {
            if ((some >> i & 1) == 1) {
                who[n++] = i;
            }
        }
        int gap = dice.nextInt(4) == 0 ? pick(dice, 0, 60) : pick(dice, 0, 5);
        int[] soonest = o.soonest(who);
        int[] order = o.order(who, gap);
        CHECK.due("soonest(" + some + ", -1)", x.soonest(some, -1), soonest[0]);
        CHECK.due("soonest(" + some + ", -2)", x.soonest(some, -2), soonest[1]);
        CHECK.due("order(" + some + ", " + gap + ", -1)", x.order(some, gap, -1), order[0]);
        CHECK.due("order(" + some + ", " + gap + ", -2)", x.order(some, gap, -2), order[1]);
        for (int i = 0; i < n; i++) {
            CHECK.due("soonest(" + some + ", " + i + ")", x.soonest(some, i), soonest[2 + i]);
            CHECK.due("order(" + some + ", " + gap + ", " + i + ")", x.order(some, gap, i), order[2 + i]);
        }
    }

    private static void ropes(Random dice, PlankBridge x, Oracle o) {
        if (o.size() > 6) {
            return;
        }
        int r = pick(dice, 0, 10);
        int[] shared = o.shared(r);
        CHECK.due("shared(" + r + ", 0)", x.shared(r, 0), shared[0]);
        CHECK.due("shared(" + r + ", 1)", x.shared(r, 1), shared[1]);
    }

    public static void main(String[] args) {
        for (int seed = 1; seed <= 300; seed++) {
            Random dice = new Random(seed);
            PlankBridge x = new PlankBridge();
            Oracle o = new Oracle();
            CHECK.part("seed " + seed);
            layLaws(dice, x, o);
            send(dice, x, o);
            days(x, o);
            whatWouldBe(x, o);
            if (seed % 3 == 0) {
                rowsOf(dice, x, o);
                ropes(dice, x, o);
            }
        }
        CHECK.end();
    }
}
