/**
 * Each sentence of the document's 'what would be', and of promises 17 to 25, that names a boundary: a test of its own, on
 * both sides of it.
 */
public final class EdgesOfWouldBeTest {
    private static final Check CHECK = new Check();
    private static final int BAD = -1, NOT = -2, NONE = -4, BAD_BELOW_ZERO = -100001;
    private static final String SIX = "0nw4;0nw4;0nw4;0nw4;0nw4;0nw4", FOUR = "0nw4;0nw4;0nw4;0nw4";

    private static void due(String call, long got, long want) {
        CHECK.due(call, got, want);
    }

    private static PlankBridge ten() {
        return Bridges.with(SIX, FOUR);
    }

    /** When the last is over, the sum, the companies as digits. */
    private static void soonest(String what, PlankBridge x, int some, int last, int sum, String row) {
        due(what + ": the last", x.soonest(some, -1), last);
        due(what + ": the sum", x.soonest(some, -2), sum);
        for (int i = 0; i < row.length(); i++) {
            due(what + ": the company of " + i, x.soonest(some, i), row.charAt(i) - '0');
        }
        due(what + ": no other", x.soonest(some, row.length()), BAD);
    }

    private static void inOrder(String what, PlankBridge x, int[] someAndGap, int last, int sum, String row) {
        int some = someAndGap[0];
        int gap = someAndGap[1];
        due(what + ": the last", x.order(some, gap, -1), last);
        due(what + ": the sum", x.order(some, gap, -2), sum);
        for (int i = 0; i < row.length(); i++) {
            due(what + ": who is " + i, x.order(some, gap, i), row.charAt(i) - '0');
        }
        due(what + ": no other", x.order(some, gap, row.length()), BAD);
    }

    // ---- SOONEST

    private static void someAreOneToSix() {
        CHECK.part("SOONEST, of 1 to 6 told PEOPLE; BAD: also none, more than 6");
        PlankBridge x = ten();
        int[] refused = {0, -1, Integer.MIN_VALUE, Integer.MAX_VALUE, 0b1111111, 0b1111111111, 0b1111111000, 1 << 10,
            1 << 10 | 1, 1 << 31 | 1, 1 << 30};
        for (int some : refused) {
            due("soonest of " + some, x.soonest(some, -1), BAD);
            due("order of " + some, x.order(some, 0, -1), BAD);
        }
        int[] taken = {1, 1 << 9, 0b111111, 0b1111110000, 0b1010101011};
        for (int some : taken) {
            due("soonest of " + some, x.soonest(some, -1), 5);
            due("order of " + some, x.order(some, 0, -1), 5);
        }
        x = Bridges.with("0nw4;0nw4");
        due("soonest of both", x.soonest(3, -1), 5);
        due("order of both", x.order(3, 0, -1), 5);
        due("soonest of one that is not told", x.soonest(4, -1), BAD);
        due("order of one that is not told", x.order(4, 0, -1), BAD);
        due("soonest of one more", x.soonest(7, -1), BAD);
        due("order of one more", x.order(7, 0, -1), BAD);
        due("soonest of nobody", new PlankBridge().soonest(1, -1), BAD);
        due("order of nobody", new PlankBridge().order(1, 0, -1), BAD);
    }

    private static void placesInRows() {
        CHECK.part("when the last is OVER (-1), the sum (-2), of the i-th of them");
        CHECK.edges("soonest of one", -2, 0, BAD, i -> ten().soonest(1 << 9, i));
        CHECK.edges("soonest of two", -2, 1, BAD, i -> ten().soonest(3, i));
        CHECK.edges("soonest of six", -2, 5, BAD, i -> ten().soonest(0b1111110000, i));
        CHECK.edges("order of one", -2, 0, BAD, i -> ten().order(1 << 9, 0, i));
        CHECK.edges("order of two", -2, 1, BAD, i -> ten().order(3, 0, i));
        CHECK.edges("order of six", -2, 5, BAD, i -> ten().order(0b1111110000, 0, i));
    }

    private static void soonestIsByThisBridgeAlone() {
        CHECK.part("who all step on in MINUTE 0 at one BANK, nobody else there, with ROPES enough, once (no NIGHT, no FORD)");
        // The first and the last, of 2 and of 10 a minute; nine planks for the first would be 15 minutes.
        PlankBridge x = Bridges.of(20, "g9n50r0f1", "499nw2t6;0nw20;0nw20;300sw10t6");
        x.stay(0, 60);
        x.hold(0, 1);
        x.hold(1, 0);
        x.hold(3, 0);
        soonest("both", x, 0b1001, 10, 20, "00");
        inOrder("both", x, new int[] {0b1001, 0}, 15, 17, "03");
        x.planks(40);
        soonest("planks as at minute 0", x, 0b1001, 20, 40, "00");
        x.planks(20);
        // What was asked ahead of it does not matter.
        x.all(1);
        soonest("both behind a day", x, 0b1001, 10, 20, "00");
        inOrder("both in order behind companies", x, new int[] {0b1001, 0}, 15, 17, "03");
        inOrder("both in order, sixty apart", x, new int[] {0b1001, 60}, 63, 73, "03");
        soonest("both behind an order", x, 0b1001, 10, 20, "00");
        x.all(1);
        inOrder("both in order behind a day", x, new int[] {0b1001, 0}, 15, 17, "03");
        soonest("400 at most", Bridges.of(400, "g9", "0nw1;0nw20"), 3, 400, 420, "01");
    }

    private static void companiesCountAsOne() {
        CHECK.part("COMPANIES that step off together when the last of them is AT THE END, as one person");
        // Three of 10 a minute are at the end in 2; the slow one has gone 20 in 5: three planks more are not too many.
        String people = "0nw10;0nw10;0nw10;0nw4";
        soonest("each counts, 3 more", Bridges.of(17, "g3c1", people), 15, 5, 11, "0001");
        soonest("each counts, 4 more", Bridges.of(17, "g4c1", people), 15, 5, 20, "0000");
        soonest("as one, 3 more", Bridges.of(17, "g3c0", people), 15, 5, 11, "0001");
        soonest("as one, 4 more", Bridges.of(17, "g4c0", people), 15, 5, 20, "0000");
        soonest("each counts, 1 more", Bridges.of(17, "g1c1", people), 15, 5, 11, "0001");
        soonest("all are one company", Bridges.of(20, "g9c1", "0nw10;0nw4"), 3, 5, 10, "00");
    }

    private static void spansInSoonest() {
        CHECK.part("SOONEST: LAWS as they are");
        // The first is at the end in 1, the second (18 gone in 3, 24 in 4) in 4 behind it; the third has gone 20 in 5.
        String people = "0nw17;0nw6;0nw4";
        soonest("by span, 3 minutes", Bridges.of(17, "g2c2w3", people), 7, 5, 10, "012");
        soonest("by span, 2 minutes", Bridges.of(17, "g2c2w2", people), 7, 5, 11, "001");
        soonest("as one", Bridges.of(17, "g2c0w3", people), 7, 5, 11, "001");
    }

    private static void spitingOnesInCompanies() {
        CHECK.part("as one person (a SPITING one in it counts by itself)");
        String people = "0nw10;0ns5;0nw4";
        // Both step off in 2: 19 planks are not too many, 21 are, so that one of both waits for the slow one.
        soonest("1 more each", Bridges.of(17, "g1", people), 7, 5, 9, "001");
        soonest("2 more each", Bridges.of(17, "g2", people), 7, 5, 12, "010");
        soonest("3 more each", Bridges.of(17, "g3", people), 7, 5, 12, "010");
        soonest("4 more each", Bridges.of(17, "g4", people), 7, 5, 15, "000");
        // Two of them alone, in one company or not, count twice.
        soonest("two of them", Bridges.of(18, "g1", "0ns5;0ns5;0nw4"), 7, 5, 9, "001");
        soonest("two of them", Bridges.of(19, "g1", "0ns5;0ns5;0nw4"), 7, 5, 12, "010");
    }

    private static void likeRowsInSoonest() {
        CHECK.part("of like ones the sum is least, of like ones the first as a row: numbered as they first occur");
        soonest("all like", Bridges.of(20, "g0", "0nw4;0nw4;0nw4"), 7, 5, 15, "000");
        soonest("none like", Bridges.of(20, "g0", "0nw4;0nw5;0nw10"), 7, 5, 11, "012");
        soonest("two like", Bridges.of(20, "g0", "0nw4;0nw10;0nw4"), 7, 5, 12, "010");
        soonest("two like", Bridges.of(20, "g0", "0nw10;0nw4;0nw4"), 7, 5, 12, "011");
        soonest("the sum counts, not the row", Bridges.of(17, "g3", "0nw4;0nw10"), 3, 5, 7, "01");
        soonest("the last counts, not the sum", Bridges.of(17, "g4", "0nw4;0nw10"), 3, 5, 10, "00");
        soonest("six, all alone", Bridges.of(60, "g0", "0nw1;0nw2;0nw3;0nw4;0nw5;0nw6"), 63, 60, 60 + 30 + 20 + 15 + 12 + 10,
            "012345");
        soonest("one", Bridges.of(20, "g9", "0nw4"), 1, 5, 5, "0");
    }

    // ---- IN ORDER

    private static void gapsAreZeroTo60() {
        CHECK.part("GAP MINUTES (0 .. 60) apart");
        CHECK.edges("gap", 0, 60, BAD, gap -> ten().order(3, gap, -1));
        CHECK.edges("gap of one", 0, 60, BAD, gap -> ten().order(1, gap, -1));
        PlankBridge x = Bridges.of(20, "g0", SIX);
        inOrder("at once", x, new int[] {63, 0}, 5, 30, "012345");
        inOrder("a minute apart", x, new int[] {63, 1}, 10, 30 + 15, "012345");
        inOrder("sixty apart", x, new int[] {63, 60}, 305, 30 + 60 * 15, "012345");
        inOrder("one", x, new int[] {32, 60}, 5, 5, "5");
        // Nobody goes by night, or the last would have fewer than 400 planks.
        inOrder("to the end of the day", Bridges.of(400, "g0n50", "0nw1;0nw1;0nw1;0nw1;0nw1;0nw1"), new int[] {63, 60}, 700,
            6 * 400 + 60 * 15, "012345");
    }

    private static void likeRowsInOrder() {
        CHECK.part("the order by which the last is OVER earliest, of like ones the sum is least, of like ones the first as a row");
        inOrder("the slow one first", Bridges.of(20, "g0", "0nw10;0nw2"), new int[] {3, 5}, 10, 17, "10");
        inOrder("by numbers", Bridges.of(20, "g0", "0nw2;0nw10"), new int[] {3, 5}, 10, 17, "01");
        inOrder("the last is not like", Bridges.of(20, "g0", "0nw10;0nw2"), new int[] {3, 0}, 10, 12, "01");
        // 1, 0, 2: two step off in 5 as one. 0, 1, 2: in 5 and in 7, and the last in 12 as well.
        inOrder("the sum is less", Bridges.of(10, "g1", "0nw1;0nw2;0nw4"), new int[] {7, 1}, 12, 22, "102");
        inOrder("some of them", Bridges.of(20, "g0", "0nw20;0nw10;0nw20;0nw2"), new int[] {0b1010, 5}, 10, 17, "31");
        // By 400 planks they take 20, 22, 24, 25, 27, 29 minutes, of which the one in place i may take 30 less 2 * i at most.
        String slower = "0nw20;0nw19;0nw17;0nw16;0nw15;0nw14";
        inOrder("the last of all rows", Bridges.of(400, "g0", slower), new int[] {63, 2}, 30, 147 + 2 * 15, "543210");
        String mixed = "0nw17;0nw14;0nw20;0nw15;0nw19;0nw16";
        inOrder("one row alone", Bridges.of(400, "g0", mixed), new int[] {63, 2}, 30, 147 + 2 * 15, "135042");
        // Alone, of like minutes: they do not wait for one another, and count as one only if the law says so.
        inOrder("each alone", Bridges.of(17, "g3c1", "0nw10;0nw10;0nw10;0nw4"), new int[] {15, 0}, 7, 13, "0123");
        inOrder("as one", Bridges.of(17, "g3c0", "0nw10;0nw10;0nw10;0nw4"), new int[] {15, 0}, 5, 11, "0123");
    }

    // ---- WORTH, THE WAIT

    private static void worthNamesOneAndAnother() {
        CHECK.part("WORTH. BAD less 100000: also itself");
        CHECK.edges("worth of", 0, 2, BAD_BELOW_ZERO, v -> Bridges.with("0nw4;0nw4;0nw4").worth(v, v == 0 ? 1 : 0));
        CHECK.edges("worth with", 0, 2, BAD_BELOW_ZERO, v -> Bridges.with("0nw4;0nw4;0nw4").worth(v == 0 ? 1 : 0, v));
        PlankBridge x = ten();
        for (int i = 0; i < 10; i++) {
            due("itself " + i, x.worth(i, i), BAD_BELOW_ZERO);
        }
        due("the tenth", x.worth(9, 8), 0);
        due("with none", x.worth(0, -1), BAD_BELOW_ZERO);
        due("nobody", new PlankBridge().worth(0, 1), BAD_BELOW_ZERO);
        due("one", Bridges.with("0nw4").worth(0, 1), BAD_BELOW_ZERO);
    }

    private static void worthMayBeBelowZero() {
        CHECK.part("by how much the sum of OVER of all (1000 if not) is less than as it is");
        due("a minute lost is -1, no refusal", Bridges.of(20, "g0", "0nw10;0nw9").worth(0, 1), -1);
        due("none lost", Bridges.of(20, "g0", "0nw10;0nw9").worth(1, 0), 0);
        due("three lost", Bridges.of(20, "g0", "0nw10;0nw4").worth(0, 1), -3);
        // Growing by 9 costs the slow two 3 minutes each, which the quick one saves by 3 of its own.
        due("won", Bridges.of(20, "g9", "0nw10;0nw4;0nw4").worth(0, 1), 2 + 8 + 8 - 15);
        // Held, the first is not over by 999: it waits for the other one on the way back.
        PlankBridge x = Bridges.of(400, "g0", "499nw20t2;499nw1t2;0nw20");
        due("not over then", x.worth(0, 1), 539 - 1000);
        x.hold(0, 1);
        due("as it is", x.worth(0, 1), 0);
        due("over then", x.worth(0, 2), 1000 - 539);
        due("it holds as it did", x.told(0, 6), 1);
    }

    private static void waitsNeedTwo() {
        CHECK.part("THE WAIT: who HOLDS (0), whom (1). BAD; NOT: fewer than two");
        CHECK.edges("waits", 0, 1, BAD, what -> Bridges.with("0nw4;0nw4").waits(what));
        for (int what = 0; what < 2; what++) {
            due("nobody", new PlankBridge().waits(what), NOT);
            due("one", Bridges.with("0nw4").waits(what), NOT);
            due("two", Bridges.with("0nw4;0nw4").waits(what), what);
            due("ten", ten().waits(what), what);
        }
        due("BAD ahead of NOT", new PlankBridge().waits(2), BAD);
        due("BAD ahead of NOT", new PlankBridge().waits(-1), BAD);
    }

    private static void theWait(String what, PlankBridge x, int who, int whom) {
        due(what + ": who", x.waits(0), who);
        due(what + ": whom", x.waits(1), whom);
    }

    private static void likeWaits() {
        CHECK.part("the pair of most WORTH, of like ones the first (by who HOLDS, then whom)");
        theWait("all like", Bridges.of(20, "g0", "0nw4;0nw4;0nw4"), 0, 1);
        theWait("the last pair", Bridges.of(20, "g9", "0nw4;0nw4;0nw10"), 2, 0);
        theWait("the first pair", Bridges.of(20, "g9", "0nw10;0nw4;0nw4"), 0, 1);
        theWait("the first costs", Bridges.of(20, "g0", "0nw10;0nw9"), 1, 0);
        theWait("two of the first cost", Bridges.of(20, "g0", "0nw10;0nw9;0nw8"), 1, 0);
        theWait("the first with the third", Bridges.of(20, "g0", "0nw10;0nw9;0nw10"), 0, 2);
    }

    // ---- HANDED, BY THE FORD

    private static void handedIsTwiceCutUp() {
        CHECK.part("meet when they have gone PLANKS together: twice so many MINUTES");
        int[][] want = {{1, 2}, {5, 2}, {6, 4}, {10, 4}, {11, 6}, {399, 160}, {400, 160}};
        for (int[] row : want) {
            due("5 a minute over " + row[0], Bridges.of(row[0], "g9", "0nw3;0sw2").handed(0, 1), row[1]);
        }
        due("the slowest", Bridges.of(400, "g0", "0nw1;0sl1").handed(1, 0), 400);
        due("the quickest", Bridges.of(400, "g0", "0nr20;0ss20").handed(0, 1), 10);
        due("no rope, the ford, the minute do not matter", Bridges.of(20, "r0f1", "0nw3;499sw2t6").handed(0, 1), 8);
    }

    private static void handedIsOfBothBanks() {
        CHECK.part("HANDED: two of both BANKS. BAD: also of one BANK");
        PlankBridge x = Bridges.with("0nw3;0sw2;0nw3;0sw2");
        for (int one = 0; one < 4; one++) {
            for (int other = 0; other < 4; other++) {
                due("handed " + one + ", " + other, x.handed(one, other), one % 2 == other % 2 ? BAD : 8);
            }
        }
        CHECK.edges("handed by", 0, 1, BAD, v -> Bridges.with("0nw3;0nw3;0sw2").handed(v > 1 ? v + 1 : v, 2));
        CHECK.edges("handed to", 0, 1, BAD, v -> Bridges.with("0nw3;0nw3;0sw2").handed(2, v > 1 ? v + 1 : v));
        due("nobody", new PlankBridge().handed(0, 1), BAD);
    }

    private static void fewestPlanksByTheFord() {
        CHECK.part("BY THE FORD: the fewest PLANKS by which one goes by the ford");
        String[] people = {"0nw1", "0nw3", "0nw20", "0nr20", "0nl1", "0nl5", "0ns7"};
        for (String text : people) {
            for (int takes : new int[] {1, 2, 9}) {
                PlankBridge x = Bridges.of(20, "g0f" + takes, text);
                int planks = x.ford(0);
                due("asked for", planks, x.told(0, 3) * takes + 1);
                x.planks(planks);
                due("so many planks of " + text + " by " + takes, x.fate(0, 2), 1);
                x.planks(planks - 1);
                due("a plank fewer", x.fate(0, 2), 0);
            }
        }
        due("of 200, pace 1", Bridges.of(20, "f200", "0nw1").ford(0), 201);
        // The document tells no other refusal than that there is no ford.
        due("more planks than a bridge has", Bridges.of(20, "f200", "0nw2").ford(0), 401);
        due("the most", Bridges.of(20, "f200", "0nr20").ford(0), 8001);
    }

    private static void noFord() {
        CHECK.part("promise 22: BAD; NOT: there is none");
        PlankBridge x = Bridges.with("0nw3;0nw3;0nw3");
        due("none", x.ford(0), NOT);
        due("nobody, none", x.ford(3), BAD);
        due("nobody, none", x.ford(-1), BAD);
        x.rule(5, 1);
        due("one", x.ford(0), 4);
        CHECK.edges("ford of", 0, 2, BAD, v -> Bridges.of(20, "f1", "0nw3;0nw3;0nw3").ford(v));
    }

    // ---- SHARED

    private static void sharedIsForZeroToTen() {
        CHECK.part("SHARED for r (0 .. 10): the set (0), the sum (1). BAD");
        CHECK.edges("shared for", 0, 10, BAD, r -> Bridges.with("0nw4;0nw4").shared(r, 0));
        CHECK.edges("shared for nobody", 0, 10, BAD, r -> new PlankBridge().shared(r, 0));
        CHECK.edges("shared what", 0, 1, BAD, what -> Bridges.with("0nw4;0nw4").shared(1, what));
        for (int r = 0; r <= 10; r++) {
            due("set of nobody", new PlankBridge().shared(r, 0), 0);
            due("sum of nobody", new PlankBridge().shared(r, 1), 0);
        }
    }

    private static void setsOfRAtMost() {
        CHECK.part("of sets of PEOPLE of r at most");
        PlankBridge x = Bridges.of(20, "g0", "0nw2;0nw2;0nw2;0nw2;0nw2;0nw2", "0nw2;0nw2;0nw2;0nw2");
        for (int r = 0; r <= 10; r++) {
            due("set for " + r, x.shared(r, 0), (1 << r) - 1);
            due("sum for " + r, x.shared(r, 1), 200 - 10 * r);
        }
        x = Bridges.of(20, "g0", "0nw2;0nw2;0nw2");
        due("more than there are", x.shared(4, 0), 7);
        due("as many", x.shared(3, 0), 7);
        due("one fewer", x.shared(2, 0), 3);
    }

    private static void likeSets() {
        CHECK.part("the sum of OVER is least, of like ones the fewest, of like ones the least");
        PlankBridge x = Bridges.of(20, "g0", "0nw1;0nw4;0nw1");
        due("who needs none has none", x.shared(10, 0), 2);
        due("nobody needs one", Bridges.of(20, "g0", "0nw1;0nl2").shared(10, 0), 0);
        // {1, 3}: three step off in 2 as one, one in 4. {0, 1, 2}: two in 1, two in 4. The sum is 10 of both.
        x = Bridges.of(5, "g7", "0nw8;2sw8;0nw8;1nw9");
        int[] sets = {0, 8, 10, 10, 10};
        int[] sums = {15, 11, 10, 10, 10};
        for (int r = 0; r <= 4; r++) {
            due("set for " + r, x.shared(r, 0), sets[r]);
            due("sum for " + r, x.shared(r, 1), sums[r]);
        }
    }

    private static void ropesForAllTrips() {
        CHECK.part("those who have ROPES (all TRIPS, as many as it takes; others none)");
        for (int ropes : new int[] {0, 1, 99}) {
            PlankBridge x = Bridges.of(20, "g0r" + ropes, "0nw2t6;0nw4t6");
            due("none has", x.shared(0, 1), 6 * 20 + 6 * 10);
            due("one has", x.shared(1, 1), 6 * 10 + 6 * 10);
            due("who", x.shared(1, 0), 1);
            due("both have", x.shared(2, 1), 6 * 10 + 6 * 5);
            due("the law stands", x.rule(4, ropes), ropes);
        }
        // 1000 if one is not over: 499 + 251 + 251 with a rope, with none as well.
        PlankBridge x = Bridges.of(251, "g0", "499nw1t2");
        due("not over", x.shared(1, 1), 1000);
        due("so none has it", x.shared(1, 0), 0);
        x = Bridges.of(250, "g0", "499nw2t4");
        due("over by ropes", x.shared(1, 1), 999);
        due("not without", x.shared(0, 1), 1000);
    }

    // ---- LATE, other

    private static void late(int grows, int[] told, int least, int most) {
        PlankBridge x = new PlankBridge();
        x.rule(0, grows);
        String call = "grows " + grows + ": late(" + told[0] + ", " + told[1] + ", " + told[2] + ")";
        due(call + " at least", x.late(told[0], told[1], told[2], 0), least);
        due(call + " at most", x.late(told[0], told[1], told[2], 1), most);
    }

    private static void lateNumbersHaveEnds() {
        CHECK.part("LATE: PACE (1 .. 40), PLANKS (1 .. 400), MINUTES (1 .. 400): at least (0), at most (1). BAD");
        CHECK.edges("pace", 1, 40, BAD, v -> new PlankBridge().late(v, 20, 1, 0));
        CHECK.edges("planks", 1, 400, BAD, v -> new PlankBridge().late(20, v, 1, 0));
        CHECK.edges("minutes", 1, 400, BAD, v -> new PlankBridge().late(20, 20, v, 0));
        CHECK.edges("what", 0, 1, BAD, v -> new PlankBridge().late(20, 20, 1, v));
    }

    private static void lateByHowMany() {
        CHECK.part("how often GROWS was added then, at least, at most; NONE: by no number");
        // By 5 a minute: in minute 3 it has gone 15, in minute 2 it had gone 10.
        late(1, new int[] {5, 10, 1}, NONE, NONE);
        late(1, new int[] {5, 10, 2}, 0, 0);
        late(1, new int[] {5, 10, 3}, 1, 5);
        late(1, new int[] {5, 10, 4}, 6, 10);
        late(1, new int[] {5, 9, 2}, 0, 1);
        late(1, new int[] {5, 11, 2}, NONE, NONE);
        late(1, new int[] {5, 11, 3}, 0, 4);
        late(1, new int[] {5, 15, 3}, 0, 0);
        late(1, new int[] {5, 16, 3}, NONE, NONE);
        late(2, new int[] {5, 10, 3}, 1, 2);
        late(2, new int[] {5, 15, 3}, 0, 0);
        late(2, new int[] {5, 16, 3}, NONE, NONE);
        late(9, new int[] {5, 15, 3}, 0, 0);
        late(9, new int[] {5, 16, 3}, NONE, NONE);
        late(5, new int[] {5, 10, 3}, 1, 1);
        late(6, new int[] {5, 10, 3}, NONE, NONE);
        late(9, new int[] {5, 10, 2}, 0, 0);
        late(9, new int[] {5, 10, 3}, NONE, NONE);
        late(9, new int[] {5, 10, 4}, 1, 1);
        late(9, new int[] {5, 10, 5}, NONE, NONE);
        late(9, new int[] {5, 10, 6}, 2, 2);
        late(1, new int[] {1, 400, 400}, 0, 0);
        late(1, new int[] {1, 400, 399}, NONE, NONE);
        late(1, new int[] {1, 1, 400}, 399, 399);
        late(1, new int[] {40, 1, 1}, 0, 39);
        // How often it was added, not how many planks a bridge can have.
        late(1, new int[] {40, 400, 400}, 15561, 15600);
    }

    private static void lateIfNothingGrows() {
        CHECK.part("promise 24: BAD; NOT: GROWS is 0; NONE");
        late(0, new int[] {5, 10, 2}, NOT, NOT);
        late(1, new int[] {5, 10, 2}, 0, 0);
        late(0, new int[] {5, 10, 1}, NOT, NOT);
        late(0, new int[] {0, 10, 1}, BAD, BAD);
        late(0, new int[] {5, 401, 1}, BAD, BAD);
        late(0, new int[] {5, 10, 401}, BAD, BAD);
    }

    private static void otherCountsAreZeroToTwo() {
        CHECK.part("By another COUNT (0 .. 2), all else as it is. BAD");
        CHECK.edges("other", 0, 2, BAD, count -> ten().other(count, 0));
        CHECK.edges("other what", 0, 1, BAD, what -> ten().other(0, what));
        // Two in minute 2, then one in 8 (26 planks or fewer by 5 are 5 or 6 minutes).
        int[] planks = {26, 29, 26};
        for (int law = 0; law < 3; law++) {
            PlankBridge x = Bridges.of(20, "g3c" + law + "w5", "0nw10;0nw10;3nw5");
            for (int count = 0; count < 3; count++) {
                due("law " + law + ", by " + count, x.other(count, 0), planks[count]);
            }
            due("the law stands", x.rule(1, law), law);
            due("as it is", x.all(0), planks[law]);
        }
        PlankBridge x = Bridges.of(20, "g3w6", "0nw10;0nw10;3nw5");
        due("within the span", x.other(2, 0), 23);
        due("the sum: 23 planks", x.other(0, 1), 2 + 2 + 8);
        due("the sum: 26 planks", x.other(1, 1), 2 + 2 + 9);
        due("of nobody", new PlankBridge().other(0, 1), 0);
        due("planks of nobody", new PlankBridge().other(2, 0), 20);
        due("1000 if not", Bridges.of(251, "g0", "499nw1t2").other(0, 1), 1000);
        due("just over", Bridges.of(250, "g0", "499nw1t2").other(0, 1), 999);
    }

    public static void main(String[] args) {
        someAreOneToSix();
        placesInRows();
        soonestIsByThisBridgeAlone();
        companiesCountAsOne();
        spansInSoonest();
        spitingOnesInCompanies();
        likeRowsInSoonest();
        gapsAreZeroTo60();
        likeRowsInOrder();
        worthNamesOneAndAnother();
        worthMayBeBelowZero();
        waitsNeedTwo();
        likeWaits();
        handedIsTwiceCutUp();
        handedIsOfBothBanks();
        fewestPlanksByTheFord();
        noFord();
        sharedIsForZeroToTen();
        setsOfRAtMost();
        likeSets();
        ropesForAllTrips();
        lateNumbersHaveEnds();
        lateByHowMany();
        lateIfNothingGrows();
        otherCountsAreZeroToTwo();
        CHECK.end();
    }
}
