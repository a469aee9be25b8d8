/** Promise by promise: ordinary inputs, the edges that the document names, wrong inputs; answers worked out by hand. */
public final class PromiseTest {
    private static final Check CHECK = new Check();
    private static final int BAD = -1, NOT = -2, FULL = -3, NONE = -4, NULL = -11, CAST = -12, INDEX = -13, SIZE = -14;
    private static final int MIN = Integer.MIN_VALUE, MAX = Integer.MAX_VALUE;

    private static void due(String call, long got, long want) {
        CHECK.due(call, got, want);
    }

    private static void type(PlankBridge x, String text) {
        Bridges.type(x, text);
    }

    private static int laws(PlankBridge x, String text) {
        return Bridges.laws(x, text);
    }

    private static int people(PlankBridge x, String text) {
        return Bridges.people(x, text);
    }

    private static PlankBridge with(String text) {
        return Bridges.with(text);
    }

    private static void newObject() {
        CHECK.part("promise 1");
        PlankBridge x = new PlankBridge();
        due("count(0)", x.count(0), 0);
        due("all(0)", x.all(0), 20);
        due("planks", x.planks(20), 20);
        int[] first = {1, 0, 5, 0, 99, 0};
        for (int what = 0; what < 6; what++) {
            due("rule " + what, x.rule(what, first[what]), first[what]);
        }
        due("restore", x.restore(), NONE);
        for (int sheet = 0; sheet < 4; sheet++) {
            due("drop " + sheet, x.drop(sheet), NULL);
        }
        due("laws", x.laws(), -20);
        due("person", x.person(0, 0, 0, 1, 1), 0);
        due("other object", new PlankBridge().count(0), 0);
    }

    private static void planks() {
        CHECK.part("promise 2");
        PlankBridge x = new PlankBridge();
        due("planks(1)", x.planks(1), 20);
        due("planks(400)", x.planks(400), 1);
        for (int v : new int[] {0, -1, 401, MIN, MAX}) {
            due("planks " + v, x.planks(v), BAD);
        }
        due("planks(30)", x.planks(30), 400);
        due("at(0, 0)", x.at(0, 0), 30);
        due("all(0)", x.all(0), 30);
    }

    private static void rule() {
        CHECK.part("promise 3");
        int[] first = {1, 0, 5, 0, 99, 0};
        int[] least = {0, 0, 1, 0, 0, 0};
        int[] most = {9, 2, 60, 50, 99, 200};
        PlankBridge x = new PlankBridge();
        for (int what = 0; what < 6; what++) {
            due("least " + what, x.rule(what, least[what]), first[what]);
            due("most " + what, x.rule(what, most[what]), least[what]);
            for (int v : new int[] {least[what] - 1, most[what] + 1, MIN, MAX}) {
                due("rule(" + what + ", " + v + ")", x.rule(what, v), BAD);
            }
            due("still " + what, x.rule(what, least[what]), most[what]);
        }
        for (int what : new int[] {-1, 6, MIN, MAX}) {
            due("rule " + what, x.rule(what, 1), BAD);
        }
    }

    private static void person() {
        CHECK.part("promise 4");
        PlankBridge x = new PlankBridge();
        due("least", x.person(0, 0, 0, 1, 1), 0);
        due("most", x.person(499, 1, 3, 20, 6), 1);
        int[] least = {0, 0, 0, 1, 1};
        int[] most = {499, 1, 3, 20, 6};
        for (int what = 0; what < 5; what++) {
            for (int v : new int[] {least[what] - 1, most[what] + 1, MIN, MAX}) {
                int[] a = least.clone();
                a[what] = v;
                due("item " + what + " is " + v, x.person(a[0], a[1], a[2], a[3], a[4]), BAD);
            }
        }
        for (int i = 2; i < 10; i++) {
            due("person " + i, x.person(1, 0, 0, 1, 1), i);
        }
        due("an eleventh", x.person(1, 0, 0, 1, 1), FULL);
        due("a wrong eleventh", x.person(1, 0, 0, 21, 1), BAD);
        due("count", x.count(0), 10);
    }

    private static void told() {
        CHECK.part("promise 5");
        PlankBridge x = new PlankBridge();
        x.person(7, 1, 0, 5, 3);
        int[] want = {7, 1, 0, 5, 3, 0, NONE};
        for (int what = 0; what < 7; what++) {
            due("told(0, " + what + ")", x.told(0, what), want[what]);
        }
        x.person(0, 0, 1, 5, 1);
        x.person(0, 0, 2, 5, 1);
        x.person(0, 0, 3, 5, 1);
        x.person(0, 0, 2, 1, 1);
        int[] paces = {5, 10, 2, 10, 1};
        int[] kinds = {0, 1, 2, 3, 2};
        for (int i = 0; i < 5; i++) {
            due("pace " + i, x.told(i, 3), paces[i]);
            due("kind " + i, x.told(i, 2), kinds[i]);
        }
        x.stay(1, 60);
        x.hold(1, 0);
        due("stay", x.told(1, 5), 60);
        due("holds", x.told(1, 6), 0);
        for (int v : new int[] {-1, 5, MIN, MAX}) {
            due("told of " + v, x.told(v, 0), BAD);
        }
        for (int v : new int[] {-1, 7, MIN, MAX}) {
            due("told what " + v, x.told(0, v), BAD);
        }
    }

    private static void stay() {
        CHECK.part("promise 6");
        PlankBridge x = with("0nw5t2");
        due("fate", x.fate(0, 0), 9);
        due("stay(0, 60)", x.stay(0, 60), 0);
        due("fate later", x.fate(0, 0), 69);
        for (int v : new int[] {-1, 61, MIN, MAX}) {
            due("stay " + v, x.stay(0, v), BAD);
        }
        for (int v : new int[] {-1, 1, MIN, MAX}) {
            due("stay of " + v, x.stay(v, 0), BAD);
        }
        due("stay(0, 0)", x.stay(0, 0), 60);
        due("fate again", x.fate(0, 0), 9);
        x.stay(0, 5);
        x.clear();
        x.person(0, 0, 0, 5, 2);
        due("a new one stays", x.told(0, 5), 0);
    }

    private static void hold() {
        CHECK.part("promise 7");
        PlankBridge x = with("0nw5;0nw4;0nw3");
        due("hold(0, 1)", x.hold(0, 1), 0);
        due("hold(0, 2)", x.hold(0, 2), 2);
        due("itself", x.hold(0, 0), BAD);
        due("hold(0, -1)", x.hold(0, -1), 3);
        due("again", x.hold(0, -1), 0);
        due("hold(1, 0)", x.hold(1, 0), 0);
        due("whom it did is 0", x.hold(1, 2), 1);
        for (int v : new int[] {-2, 3, MIN, MAX}) {
            due("hold other " + v, x.hold(0, v), BAD);
            due("hold of " + v, x.hold(v, 0), BAD);
        }
        due("hold of -1", x.hold(-1, -1), BAD);
        due("still", x.told(1, 6), 2);
        x.clear();
        people(x, "0nw5;0nw5");
        due("a new one holds", x.told(1, 6), NONE);
    }

    private static void clear() {
        CHECK.part("promise 8");
        PlankBridge x = with("0nw5;3sr4");
        x.planks(33);
        x.rule(0, 4);
        due("clear", x.clear(), 2);
        due("again", x.clear(), 0);
        due("count", x.count(0), 0);
        due("fate", x.fate(0, 0), BAD);
        due("planks", x.planks(1), 33);
        due("rule", x.rule(0, 1), 4);
        due("a new one", x.person(0, 0, 0, 1, 1), 0);
    }

    private static void typing() {
        CHECK.part("promise 9");
        PlankBridge x = new PlankBridge();
        due("n 0", x.type('g', 0), BAD);
        due("n 9", x.type('g', 9), BAD);
        due("n MIN", x.type('g', MIN), BAD);
        due("n MAX", x.type('g', MAX), BAD);
        due("a byte 31", x.type(0x671FL, 2), BAD);
        due("a byte 127", x.type(0x7F67L, 2), BAD);
        due("a byte 255", x.type(-1L, 8), BAD);
        due("a byte 0", x.type(0x67L, 2), BAD);
        due("bytes above do not matter", x.type(0xFFFFFFFFFFFF6737L, 2), 2);
        due("laws", x.laws(), 1);
        due("grows", x.rule(0, 1), 7);
        due("signs 32 and 126", x.type(0x207EL, 2), 2);
        due("laws", x.laws(), -21);
        for (int i = 1; i <= 10; i++) {
            due("eight more", x.type(0x2020202020202020L, 8), 8 * i);
        }
        due("one more", x.type(' ', 1), FULL);
        due("a wrong one more", x.type(0, 1), BAD);
        due("laws", x.laws(), -100);
        for (int i = 1; i <= 79; i++) {
            due("one more", x.type(' ', 1), i);
        }
        due("two more", x.type(0x2020L, 2), FULL);
        due("one more", x.type(' ', 1), 80);
    }

    private static void lawTexts() {
        CHECK.part("promise 10");
        PlankBridge x = new PlankBridge();
        due("all", laws(x, "g2c1w60n50r98f200"), 6);
        int[] want = {2, 1, 60, 50, 98, 200};
        for (int what = 0; what < 6; what++) {
            due("law " + what, x.rule(what, want[what]), want[what]);
        }
        due("some, blanks", laws(x, " c 2  r007 "), 2);
        due("count", x.rule(1, 2), 2);
        due("ropes", x.rule(4, 98), 7);
        String[] texts = {" ", "g", "g ", "x", "1", "g10", "g1c3", "w0", "w61", "n51", "r100", "f201", "g1 0", "c1g1",
            "g1g2", "f1f2", "g-1", "G1", "g1;", "g99999999999999999999", "g1 c2 x", "c1w", "g4294967297", "g1c"};
        int[] places = {1, 1, 2, 0, 0, 1, 3, 1, 1, 1, 1, 1, 3, 2,
            2, 2, 1, 0, 2, 1, 6, 3, 1, 3};
        for (int i = 0; i < texts.length; i++) {
            due("text '" + texts[i] + "'", laws(x, texts[i]), -20 - places[i]);
            due("the tape then", x.type('g', 1), 1);
            due("the rest", x.laws(), -21);
        }
        due("none became so", x.rule(0, 2), 2);
        due("nor", x.rule(1, 2), 2);
        due("nothing typed", x.laws(), -20);
        x.planks(2);
        due("they hold", laws(x, "r0"), 1);
        people(x, "0nw2");
        due("no rope", x.fate(0, 4), 1);
    }

    private static void peopleTexts() {
        CHECK.part("promise 11");
        PlankBridge x = new PlankBridge();
        due("six", people(x, "0nw1;499ss20t6;1nr2;2nl3t1; 3 s w 4 t 2 ;5nw5"), 6);
        int[][] want = {{0, 0, 0, 1, 1}, {499, 1, 3, 40, 6}, {1, 0, 1, 4, 1}, {2, 0, 2, 1, 1}, {3, 1, 0, 4, 2}, {5, 0, 0, 5, 1}};
        for (int i = 0; i < 6; i++) {
            for (int what = 0; what < 5; what++) {
                due("told(" + i + ", " + what + ")", x.told(i, what), want[i][what]);
            }
        }
        due("too many", people(x, "0nw1;0nw1;0nw1;0nw1;0nw1"), FULL);
        due("none came", x.count(0), 6);
        due("the tape then", x.type('0', 1), 1);
        due("the rest", x.people(), -21);
        due("four more", people(x, "0nw1;0nw1;0nw1;0nw1"), 4);
        due("one more", people(x, "0nw1"), FULL);
        due("a wrong one more", people(x, "0nw0"), -23);
        x.clear();
        String[] texts = {" ", "0", "0 ", "n", "500nw1", "0xw1", "0nx1", "0nw", "0nw0", "0nw21", "0nw1t", "0nw1t0",
            "0nw1t7", "0nw1t12", "0nw1t1t1", "0nw1x", "0nw1;", "0nw1;;", "0nw1 1", "0n w1;1e", "0nw1;0nw1;0nw1;0nw1;0nw1;0nw1;",
            ";0nw1", "0NW1", "00000000000000000000000000000500nw1", "0sn1", "0nw1,", "1 0nw1", "0nw99999999999"};
        int[] places = {1, 1, 2, 0, 0, 1, 2, 3, 3, 3, 5, 5,
            5, 6, 6, 4, 5, 5, 5, 7, 29,
            0, 1, 0, 2, 4, 2, 3};
        for (int i = 0; i < texts.length; i++) {
            due("text '" + texts[i] + "'", people(x, texts[i]), -20 - places[i]);
        }
        due("none came", x.count(0), 0);
        due("nothing typed", x.people(), -20);
        due("two", people(x, "0nw1;1nw1"), 2);
        due("one more", people(x, "2nw1"), 1);
        due("and no other", x.count(0), 3);
    }

    private static void count() {
        CHECK.part("promise 12");
        PlankBridge x = new PlankBridge();
        due("nobody", x.count(0) + x.count(1) + x.count(2), 0);
        people(x, "0nw1t3;0sw1t6;0nw1");
        due("people", x.count(0), 3);
        due("trips", x.count(1), 10);
        due("bank 0", x.count(2), 2);
        for (int v : new int[] {-1, 3, MIN, MAX}) {
            due("count " + v, x.count(v), BAD);
        }
    }

    private static void fate() {
        CHECK.part("promise 13");
        // Gone 21 of 20 planks in minute 6, and back 21 of 21 in minute 9.
        PlankBridge x = with("3nw7t2");
        due("over", x.fate(0, 0), 9);
        due("made", x.fate(0, 1), 2);
        // One with pace 10 holds one with pace 4: at the end in minute 2, waits 2, 3, 4 and goes with it in 5.
        x = with("0nw10;0nw4");
        x.hold(0, 1);
        due("waits", x.fate(0, 0), 5);
        due("with it", x.fate(1, 0), 5);
        due("waited", x.fate(0, 3), 3);
        due("the other", x.fate(1, 3), 0);
        due("counts as one", x.all(0), 21);
        // Whom it holds comes from the other bank: no waiting.
        x = with("0nw10;0sw4");
        x.hold(0, 1);
        due("other way", x.fate(0, 0), 2);
        // The last to come: not over by 999 on a bridge of 400 planks, six times.
        x = with("499nw1t6");
        x.planks(400);
        due("not over", x.fate(0, 0), NONE);
        due("made", x.fate(0, 1), 1);
        // By the ford, as 20 planks by 2 are 10 minutes and the ford takes 9.
        x = with("0nw2t2;0nw3");
        x.rule(5, 9);
        due("ford over", x.fate(0, 0), 18);
        due("fords", x.fate(0, 2), 2);
        due("bridge", x.fate(1, 2), 0);
        x.rule(5, 10);
        due("not more than the ford takes", x.fate(0, 2), 1);
        // One rope for two trips of two people: the second trips, and the other one, have none.
        x = with("0nw5t2;0nw1");
        x.rule(4, 1);
        due("ropeless", x.fate(0, 4), 1);
        due("over at half the pace", x.fate(0, 0), 4 + 11);
        due("ropeless", x.fate(1, 4), 1);
        due("half of 1 is 1", x.fate(1, 0), 22);
        for (int v : new int[] {-1, 2, MIN, MAX}) {
            due("fate of " + v, x.fate(v, 0), BAD);
        }
        for (int v : new int[] {-1, 5, MIN, MAX}) {
            due("fate what " + v, x.fate(0, v), BAD);
        }
    }

    private static void at() {
        CHECK.part("promise 14");
        PlankBridge x = with("0nw10;0nw4;0sw10;1ss5");
        x.hold(0, 1);
        x.rule(4, 3);
        int[][] want = {
            {0, 20, 3, 4, 0, 0, 0},
            {1, 20, 3, 12, 0, 0, 0},
            {2, 21, 3, 8, 1, 0, 4},
            {5, 21, 3, 8, 1, 0, 4},
            {6, 23, 0, 0, 0, 0, 15},
            {999, 23, 0, 0, 0, 0, 15},
        };
        // The third is over in 2: 21 planks, so the second (24 gone) is at the end in 6, and the first with it;
        // the fourth has no rope, half its pace of 10, and comes over to the other bank in 6 as well.
        for (int[] row : want) {
            for (int what = 0; what < 6; what++) {
                due("at(" + row[0] + ", " + what + ")", x.at(row[0], what), row[1 + what]);
            }
        }
        x = new PlankBridge();
        x.rule(3, 7);
        due("ropes", x.at(239, 4), 99);
        due("ahead of the night", x.at(239, 0), 20);
        due("first night", x.at(240, 0), 13);
        due("second night", x.at(480, 0), 6);
        due("third night, 1 at least", x.at(720, 0), 1);
        due("fourth night", x.at(960, 0), 1);
        for (int v : new int[] {-1, 1000, MIN, MAX}) {
            due("at " + v, x.at(v, 0), BAD);
        }
        for (int v : new int[] {-1, 6, MIN, MAX}) {
            due("at what " + v, x.at(0, v), BAD);
        }
    }

    private static void gone() {
        CHECK.part("promise 15");
        PlankBridge x = with("2nw7t2;2nw3");
        x.hold(0, 1);
        int[] want = {NONE, NONE, 0, 7, 14, 21, 21, 21, 21, 0, 7};
        for (int m = 0; m < want.length; m++) {
            due("gone(0, " + m + ")", x.gone(0, m), want[m]);
        }
        due("gone(1, 8)", x.gone(1, 8), 18);
        due("gone(1, 9)", x.gone(1, 9), NONE);
        due("gone(0, 999)", x.gone(0, 999), NONE);
        for (int v : new int[] {-1, 2, MIN, MAX}) {
            due("gone of " + v, x.gone(v, 0), BAD);
        }
        for (int v : new int[] {-1, 1000, MIN, MAX}) {
            due("gone at " + v, x.gone(0, v), BAD);
        }
        x = with("0nw1");
        x.rule(5, 2);
        due("by the ford", x.gone(0, 1), NONE);
    }

    private static void all() {
        CHECK.part("promise 16");
        PlankBridge x = with("0nw10;0nw10;0sw10;0nr5;0ns5;3nw4");
        x.rule(0, 2);
        // In minute 2: three walkers and runners of bank 0, one of bank 1, a spiting one; the last in 3 + 7 (26 planks).
        int[][] byCount = {{28, 2 * 5 + 10, 10, 4}, {32, 2 * 5 + 11, 11, 6}, {28, 2 * 5 + 10, 10, 4}};
        for (int count = 0; count < 3; count++) {
            x.rule(1, count);
            for (int what = 0; what < 4; what++) {
                due("by " + count + " all(" + what + ")", x.all(what), byCount[count][what]);
            }
        }
        x.rule(2, 8);
        due("within the span", x.all(3), 3);
        x.rule(2, 7);
        due("behind the span", x.all(3), 4);
        x.rule(5, 1);
        due("fords", x.all(4), 6);
        due("none counts", x.all(3), 0);
        x.rule(5, 0);
        x.person(499, 0, 2, 1, 6);
        x.planks(400);
        x.rule(0, 9);
        due("at most 400", x.all(0), 400);
        due("not all", x.all(2), 1000);
        due("1000 if not", x.all(1), 5 * 40 + 103 + 1000);
        for (int v : new int[] {-1, 5, MIN, MAX}) {
            due("all " + v, x.all(v), BAD);
        }
        x.clear();
        due("nobody", x.all(2), 0);
    }

    private static void soonest() {
        CHECK.part("promise 17");
        PlankBridge x = with("7sr1;0nw4t6;0nw5;0nw10");
        x.rule(0, 9);
        // Alone: 10 in minute 2, 5 in 6 (29 planks), 4 in 10 (38). With 10 and 5 as one, in 4: 4 in 8 (29). As one all: 5.
        due("last", x.soonest(14, -1), 5);
        due("sum", x.soonest(14, -2), 15);
        due("companies", x.soonest(14, 0) + x.soonest(14, 1) + x.soonest(14, 2), 0);
        x.rule(0, 0);
        due("nothing grows", x.soonest(14, -2), 5 + 4 + 2);
        due("companies", x.soonest(14, 0) * 100 + x.soonest(14, 1) * 10 + x.soonest(14, 2), 12);
        due("one", x.soonest(8, -1), 2);
        due("its company", x.soonest(8, 0), 0);
        due("the first", x.soonest(1, -2), 10);
        x.rule(3, 50);
        x.rule(5, 1);
        x.rule(4, 0);
        due("no ford, ropes enough", x.soonest(14, -2), 11);
        x = with("0nw5;0ns5;0nw5");
        x.rule(0, 5);
        x.rule(1, 1);
        // The spiting one is ahead in minute 2: 25 planks for the others in any company but with it.
        due("with the spiting one", x.soonest(7, -1), 4);
        due("all as one", x.soonest(7, -2), 12);
        for (int v : new int[] {0, -1, 8, 9, MIN, MAX}) {
            due("some " + v, x.soonest(v, -1), BAD);
        }
        for (int v : new int[] {-3, 3, MIN, MAX}) {
            due("i " + v, x.soonest(7, v), BAD);
        }
        due("i of two", x.soonest(5, 2), BAD);
        people(x, "0nw1;0nw1;0nw1;0nw1");
        due("six", x.soonest(63, -1), 20);
        due("seven", x.soonest(127, -1), BAD);
    }

    private static void order() {
        CHECK.part("promise 18");
        PlankBridge x = with("0sw1;0nw2;0nw10");
        // 2 first: 10 in minute 7 (5 + 2), 2 in 11 (21 planks); 10 first: 2, then 5 + 11.
        due("last", x.order(6, 5, -1), 11);
        due("sum", x.order(6, 5, -2), 18);
        due("first", x.order(6, 5, 0), 1);
        due("second", x.order(6, 5, 1), 2);
        due("at once", x.order(6, 0, -2), 13);
        due("by numbers", x.order(6, 0, 0), 1);
        x = with("0nw10;0nw2");
        due("last", x.order(3, 60, -1), 63);
        due("the quick one last", x.order(3, 60, 0), 1);
        due("then", x.order(3, 60, 1), 0);
        x.rule(3, 50);
        x.rule(5, 1);
        x.rule(4, 0);
        due("no ford, ropes enough", x.order(3, 60, -1), 63);
        for (int v : new int[] {0, -1, 4, 5, MIN, MAX}) {
            due("some " + v, x.order(v, 1, -1), BAD);
        }
        for (int v : new int[] {-1, 61, MIN, MAX}) {
            due("gap " + v, x.order(3, v, -1), BAD);
        }
        for (int v : new int[] {-3, 2, MIN, MAX}) {
            due("i " + v, x.order(3, 1, v), BAD);
        }
        people(x, "0nw1;0nw1;0nw1;0nw1;0nw1");
        due("six", x.order(126, 0, 5), 6);
        due("seven", x.order(127, 0, -1), BAD);
    }

    private static void worth() {
        CHECK.part("promise 19");
        PlankBridge x = with("0nw10;0nw4;0nw4;0nw4");
        x.rule(0, 4);
        // As it is: 2, then three of 4 over 24 planks: 6 each. Held by the first: all in 5.
        due("worth(0, 1)", x.worth(0, 1), 2 + 18 - 20);
        due("the slow one waits", x.worth(1, 0), 0);
        x.rule(0, 9);
        due("worth more", x.worth(0, 1), 2 + 24 - 20);
        x.hold(0, 1);
        due("it is so", x.worth(0, 1), 0);
        due("nothing became so", x.told(1, 6), NONE);
        x.hold(0, -1);
        x.rule(0, 0);
        due("below 0", x.worth(0, 1), -3);
        due("itself", x.worth(1, 1), -100001);
        for (int v : new int[] {-1, 4, MIN, MAX}) {
            due("worth of " + v, x.worth(v, 0), -100001);
            due("worth with " + v, x.worth(0, v), -100001);
        }
        x = with("0nw10t6;499nw1t6");
        x.planks(400);
        due("1000 if not", x.worth(0, 1), 0);
    }

    private static void waits() {
        CHECK.part("promise 20");
        PlankBridge x = new PlankBridge();
        due("nobody", x.waits(0), NOT);
        due("wrong, too", x.waits(2), BAD);
        people(x, "0nw4");
        due("one", x.waits(1), NOT);
        people(x, "0nw4");
        due("two", x.waits(0), 0);
        due("two", x.waits(1), 1);
        people(x, "0nw10;0nw4");
        x.rule(0, 9);
        due("who", x.waits(0), 2);
        due("whom", x.waits(1), 0);
        x.rule(0, 0);
        due("none is worth it: who", x.waits(0), 0);
        due("none is worth it: whom", x.waits(1), 1);
        for (int v : new int[] {-1, 2, MIN, MAX}) {
            due("waits " + v, x.waits(v), BAD);
        }
        // All waiting costs: the least loss, of like ones the first.
        x = with("0nw10;0nw9;0nw5");
        x.rule(0, 0);
        x.hold(0, 1);
        x.hold(1, 2);
        x.hold(2, 0);
        due("who should let go", x.waits(0), 1);
        due("whom it would hold", x.waits(1), 0);
    }

    private static void handed() {
        CHECK.part("promise 21");
        PlankBridge x = with("0nw3;9sl5;4sr9;0nw1");
        due("5 a minute", x.handed(0, 1), 8);
        x.planks(21);
        due("cut up", x.handed(0, 1), 10);
        due("other way", x.handed(1, 0), 10);
        due("running", x.handed(0, 2), 2);
        due("20 a minute", x.handed(3, 2), 4);
        due("one bank", x.handed(1, 2), BAD);
        due("one bank", x.handed(0, 3), BAD);
        due("itself", x.handed(0, 0), BAD);
        for (int v : new int[] {-1, 4, MIN, MAX}) {
            due("handed by " + v, x.handed(v, 1), BAD);
            due("handed to " + v, x.handed(1, v), BAD);
        }
    }

    private static void ford() {
        CHECK.part("promise 22");
        PlankBridge x = with("0nw3;0nr2;0nl3");
        due("none", x.ford(0), NOT);
        due("none, nobody", x.ford(3), BAD);
        x.rule(5, 9);
        due("walking", x.ford(0), 28);
        due("running", x.ford(1), 37);
        due("loaded", x.ford(2), 10);
        x.planks(27);
        due("a plank fewer", x.fate(0, 2), 0);
        x.planks(28);
        due("so many", x.fate(0, 2), 1);
        for (int v : new int[] {-1, 3, MIN, MAX}) {
            due("ford " + v, x.ford(v), BAD);
        }
    }

    private static void shared() {
        CHECK.part("promise 23");
        PlankBridge x = with("0nw4;0sw10;0nw2;0nw1");
        x.rule(0, 0);
        x.rule(4, 0);
        // With ropes 5, 2, 10, 20; without 10, 4, 20, 20.
        int[] sets = {0, 4, 5, 7, 7};
        int[] sums = {54, 44, 39, 37, 37};
        for (int r = 0; r < 5; r++) {
            due("set for " + r, x.shared(r, 0), sets[r]);
            due("sum for " + r, x.shared(r, 1), sums[r]);
        }
        due("set for 10", x.shared(10, 0), 7);
        due("ropes are as they were", x.at(0, 4), 0);
        x.rule(4, 99);
        due("only r have", x.shared(0, 1), 54);
        for (int v : new int[] {-1, 11, MIN, MAX}) {
            due("shared for " + v, x.shared(v, 0), BAD);
        }
        for (int v : new int[] {-1, 2, MIN, MAX}) {
            due("shared what " + v, x.shared(0, v), BAD);
        }
        x = with("0nw2;0nw2");
        x.rule(0, 0);
        due("of like ones the least", x.shared(1, 0), 1);
        x = with("0nw2t6");
        x.rule(0, 0);
        due("all trips", x.shared(1, 1), 60);
    }

    private static void late() {
        CHECK.part("promise 24");
        PlankBridge x = new PlankBridge();
        // 8 a minute: in minute 4 it has gone 32, in minute 3 it had gone 24: 25 .. 32 planks.
        due("at least", x.late(8, 20, 4, 0), 5);
        due("at most", x.late(8, 20, 4, 1), 12);
        due("not late", x.late(8, 20, 3, 0), 0);
        due("not late", x.late(8, 20, 3, 1), 4);
        due("too early", x.late(8, 20, 2, 0), NONE);
        x.rule(0, 9);
        due("by nines", x.late(8, 20, 4, 0), 1);
        due("by nines", x.late(8, 20, 4, 1), 1);
        due("between nines", x.late(4, 20, 6, 0), NONE);
        due("between nines", x.late(4, 20, 6, 1), NONE);
        due("just", x.late(1, 400, 400, 1), 0);
        due("ends", x.late(1, 1, 1, 0), 0);
        x.rule(0, 0);
        due("nothing grows", x.late(8, 20, 4, 0), NOT);
        due("BAD first", x.late(0, 20, 4, 0), BAD);
        x.rule(0, 1);
        for (int v : new int[] {0, 401, MIN, MAX}) {
            due("planks " + v, x.late(8, v, 4, 0), BAD);
            due("minutes " + v, x.late(8, 20, v, 0), BAD);
        }
        for (int v : new int[] {0, 41, MIN, MAX}) {
            due("pace " + v, x.late(v, 20, 4, 0), BAD);
        }
        for (int v : new int[] {-1, 2, MIN, MAX}) {
            due("what " + v, x.late(8, 20, 4, v), BAD);
        }
        due("pace 40", x.late(40, 60, 2, 1), 20);
    }

    private static void other() {
        CHECK.part("promise 25");
        PlankBridge x = with("0nw10;0nw10;3nw10");
        int[] planks = {22, 23, 21};
        int[] sums = {10, 10, 10};
        for (int count = 0; count < 3; count++) {
            due("planks by " + count, x.other(count, 0), planks[count]);
            due("sum by " + count, x.other(count, 1), sums[count]);
        }
        due("as it is", x.rule(1, 1), 0);
        due("by it", x.all(0), 23);
        due("by none", x.other(0, 0), 22);
        for (int v : new int[] {-1, 3, MIN, MAX}) {
            due("other " + v, x.other(v, 0), BAD);
        }
        for (int v : new int[] {-1, 2, MIN, MAX}) {
            due("other what " + v, x.other(0, v), BAD);
        }
    }

    private static void images() {
        CHECK.part("promises 26, 27");
        PlankBridge x = with("0nw5;1sr4");
        due("none yet", x.restore(), NONE);
        x.planks(33);
        x.rule(0, 4);
        x.stay(0, 7);
        x.hold(1, 0);
        type(x, "g");
        x.sheet(0, 0, 3);
        due("image", x.image(), 1);
        due("the tape stands", x.type('5', 1), 2);
        x.planks(1);
        x.rule(0, 5);
        x.stay(0, 8);
        x.hold(1, -1);
        x.clear();
        x.person(9, 1, 1, 9, 6);
        x.sheet(1, 2, 4);
        x.drop(0);
        due("restore", x.restore(), 1);
        due("the tape stands", x.type(' ', 1), 3);
        due("as laws", x.laws(), 1);
        due("sheet 0 stays missing", x.drop(0), NULL);
        due("sheet 1 stays", x.drop(1), 4);
        due("grows by the tape", x.rule(0, 4), 5);
        due("planks", x.planks(2), 33);
        due("people", x.count(0), 2);
        due("stay", x.told(0, 5), 7);
        due("holds", x.told(1, 6), 0);
        due("pace", x.told(0, 3), 5);
        due("minute", x.told(1, 0), 1);
        x.stay(0, 9);
        x.rule(1, 2);
        due("restore again", x.restore(), 1);
        due("the image stands", x.told(0, 5), 7);
        due("planks", x.planks(33), 33);
        due("laws", x.rule(1, 0), 0);
        due("grows", x.rule(0, 4), 4);
        x.clear();
        due("a newer image", x.image(), 1);
        people(x, "0nw1");
        due("restore", x.restore(), 1);
        due("nobody", x.count(0), 0);
    }

    private static void fill(PlankBridge x, int sheet, int lane, int from, int[] items) {
        for (int i = 0; i < items.length; i++) {
            due("item", x.item(sheet, lane, from + i, items[i]), 1);
        }
    }

    private static void crowd() {
        CHECK.part("promise 28");
        PlankBridge x = new PlankBridge();
        x.sheet(3, 1, 24);
        fill(x, 3, 1, 4, new int[] {499, 1, 3, 20, 6, 0, 0, 2, 5, 1, 1, 0, 0, 1, 1, 2, 0, 0, 1, 1});
        due("four to the end", x.crowd(3, 1, 4, 4), 4);
        due("told", x.told(0, 0), 499);
        due("told", x.told(0, 3), 40);
        due("told", x.told(1, 3), 2);
        due("told", x.told(3, 0), 2);
        due("beyond the end", x.crowd(3, 1, 5, 4), INDEX);
        due("below", x.crowd(3, 1, -1, 1), INDEX);
        due("far below", x.crowd(3, 1, MIN, 4), INDEX);
        due("far beyond", x.crowd(3, 1, MAX, 4), INDEX);
        due("beyond, not as told", x.crowd(3, 1, 20, 1), INDEX);
        due("not as told", x.crowd(3, 1, 0, 1), NOT);
        due("the second not as told", x.crowd(3, 1, 14, 2), 2);
        x.item(3, 1, 22, 0);
        due("now", x.crowd(3, 1, 14, 2), NOT);
        due("none came", x.count(0), 6);
        due("three", x.crowd(3, 1, 4, 3), 3);
        due("no room", x.crowd(3, 1, 4, 2), FULL);
        due("NOT ahead of FULL", x.crowd(3, 1, 14, 2), NOT);
        due("one", x.crowd(3, 1, 4, 1), 1);
        due("none came of those", x.count(0), 10);
        due("missing", x.crowd(0, 1, 0, 1), NULL);
        due("another lane", x.crowd(3, 2, 99, 1), CAST);
        due("missing, another lane", x.crowd(0, 0, -1, 1), NULL);
        for (int v : new int[] {0, 5, MIN, MAX}) {
            due("n " + v, x.crowd(0, 1, 0, v), BAD);
        }
        for (int v : new int[] {-1, 4, MIN, MAX}) {
            due("sheet " + v, x.crowd(v, 1, 0, 1), BAD);
        }
        for (int v : new int[] {-1, 3, MIN, MAX}) {
            due("lane " + v, x.crowd(0, v, 0, 1), BAD);
        }
        x.clear();
        x.sheet(0, 0, 5);
        fill(x, 0, 0, 0, new int[] {200, 0, 0, 1, 1});
        due("200 as a byte is below 0", x.crowd(0, 0, 0, 1), NOT);
        x.item(0, 0, 0, 256 + 7);
        due("its lowest bits", x.crowd(0, 0, 0, 1), 1);
        due("told", x.told(0, 0), 7);
        due("none else came", x.count(0), 1);
        x.sheet(0, 0, 10);
        fill(x, 0, 0, 0, new int[] {0, 0, 0, 1, 1, 0, 0, 0, 1, 1});
        due("one of two", x.crowd(0, 0, 0, 1), 1);
        due("not the other", x.count(0), 2);
        x.sheet(0, 0, 0);
        due("an empty row", x.crowd(0, 0, 0, 1), INDEX);
    }

    private static void sheets() {
        CHECK.part("promises 29, 30, 31");
        PlankBridge x = new PlankBridge();
        for (int sheet = 0; sheet < 4; sheet++) {
            due("missing", x.drop(sheet), NULL);
            due("missing", x.item(sheet, 0, 0, 0), NULL);
            due("sheet", x.sheet(sheet, sheet % 3, 24 - sheet), 24 - sheet);
        }
        for (int sheet = 0; sheet < 4; sheet++) {
            due("another lane", x.item(sheet, (sheet + 1) % 3, 99, 0), CAST);
            due("item", x.item(sheet, sheet % 3, 23 - sheet, MAX), 1);
            due("beyond", x.item(sheet, sheet % 3, 24 - sheet, 0), INDEX);
            due("below", x.item(sheet, sheet % 3, -1, 0), INDEX);
            due("far beyond", x.item(sheet, sheet % 3, MAX, 0), INDEX);
            due("far below", x.item(sheet, sheet % 3, MIN, 0), INDEX);
            due("drop", x.drop(sheet), 24 - sheet);
            due("drop again", x.drop(sheet), NULL);
        }
        due("no items", x.sheet(0, 0, 0), 0);
        due("no item", x.item(0, 0, 0, 0), INDEX);
        due("below 0", x.sheet(0, 1, -1), SIZE);
        due("far below 0", x.sheet(0, 1, MIN), SIZE);
        due("above", x.sheet(0, 1, 25), BAD);
        due("far above", x.sheet(0, 1, MAX), BAD);
        due("it stands", x.item(0, 1, 0, 0), CAST);
        due("it stands", x.drop(0), 0);
        for (int v : new int[] {-1, 4, MIN, MAX}) {
            due("sheet " + v, x.sheet(v, 0, -1), BAD);
            due("drop " + v, x.drop(v), BAD);
            due("item of " + v, x.item(v, 0, 0, 0), BAD);
        }
        for (int v : new int[] {-1, 3, MIN, MAX}) {
            due("lane " + v, x.sheet(0, v, -1), BAD);
            due("item of lane " + v, x.item(0, v, 0, 0), BAD);
        }
        // A new row has none of the old items.
        x.sheet(0, 2, 5);
        fill(x, 0, 2, 0, new int[] {1, 0, 0, 1, 1});
        due("crowd", x.crowd(0, 2, 0, 1), 1);
        x.sheet(0, 2, 5);
        due("a new row", x.crowd(0, 2, 0, 1), NOT);
        fill(x, 0, 2, 1, new int[] {0, 0, 1, 1});
        due("with four of its items", x.crowd(0, 2, 0, 1), 1);
        due("the first of them is 0", x.told(1, 0), 0);
        x.sheet(0, 2, 4);
        x.sheet(0, 2, 5);
        fill(x, 0, 2, 0, new int[] {0, 0, 0, 1});
        due("the last of them is 0", x.crowd(0, 2, 0, 1), NOT);
        // Lowest bits: of a short 65536 + 3 is 3, of an int it is not.
        x.sheet(1, 1, 5);
        fill(x, 1, 1, 0, new int[] {65536 + 3, 65536, -65536, 1, 131072 + 1});
        due("shorts", x.crowd(1, 1, 0, 1), 1);
        x.sheet(1, 2, 5);
        fill(x, 1, 2, 0, new int[] {65536 + 3, 0, 0, 1, 1});
        due("ints", x.crowd(1, 2, 0, 1), NOT);
    }

    private static void film() {
        CHECK.part("promise 32");
        // What comes to the sheet is read back by crowd(), as a person.
        PlankBridge x = with("0nw4;0nw20;0nw20;0nw20;0nw20");
        x.planks(20);
        x.sheet(0, 1, 7);
        due("film", x.film(0, 1, 2), 5);
        due("beyond", x.film(0, 1, 3), INDEX);
        due("below", x.film(0, 1, -1), INDEX);
        due("far beyond", x.film(0, 1, MAX), INDEX);
        due("far below", x.film(0, 1, MIN), INDEX);
        // Over: 6 (21 planks), 1, 1, 1, 1.
        due("as a person", x.crowd(0, 1, 2, 1), 1);
        due("minute", x.told(5, 0), 6);
        due("bank", x.told(5, 1), 1);
        due("kind", x.told(5, 2), 1);
        due("pace", x.told(5, 3), 2);
        due("trips", x.told(5, 4), 1);
        due("another lane", x.film(0, 2, 99), CAST);
        due("missing", x.film(1, 2, 99), NULL);
        for (int v : new int[] {-1, 4, MIN, MAX}) {
            due("sheet " + v, x.film(v, 0, 0), BAD);
        }
        for (int v : new int[] {-1, 3, MIN, MAX}) {
            due("lane " + v, x.film(1, v, 0), BAD);
        }
        // 1000 as a byte is -24; 256 + 5 minutes are 5.
        x = with("499nw1t6;0nw1;0nw20;0nw20;0nw20");
        x.planks(400);
        x.rule(0, 0);
        x.sheet(0, 2, 5);
        x.sheet(1, 0, 6);
        due("ints", x.film(0, 2, 0), 5);
        due("1000 may not be", x.crowd(0, 2, 0, 1), NOT);
        due("bytes", x.film(1, 0, 1), 5);
        due("nor -24", x.crowd(1, 0, 1, 1), NOT);
        x = with("261nw20;0nr10;0nr10;0nr10;0nr10");
        x.planks(1);
        x.sheet(1, 0, 5);
        due("bytes", x.film(1, 0, 0), 5);
        due("their lowest bits", x.crowd(1, 0, 0, 1), 1);
        due("262 is 6", x.told(5, 0), 6);
        x.clear();
        due("nobody", x.film(1, 0, 5), 0);
        // Items around those that it fills stay as they were.
        x = with("0nw20");
        x.planks(30);
        x.sheet(2, 2, 6);
        fill(x, 2, 2, 0, new int[] {7, 1, 1, 3, 9, 6});
        due("one", x.film(2, 2, 1), 1);
        x.item(2, 2, 1, 1);
        due("as it was", x.crowd(2, 2, 0, 1), NOT);
        x.item(2, 2, 4, 5);
        due("as a person", x.crowd(2, 2, 0, 1), 1);
        int[] want = {7, 1, 1, 6, 5};
        for (int what = 0; what < 5; what++) {
            due("told(1, " + what + ")", x.told(1, what), want[what]);
        }
        x.clear();
        people(x, "0nw20");
        x.planks(30);
        fill(x, 2, 2, 0, new int[] {7, 1, 1, 3, 4, 6});
        due("one", x.film(2, 2, 0), 1);
        due("as a person", x.crowd(2, 2, 0, 1), 1);
        int[] then = {2, 1, 1, 6, 4};
        for (int what = 0; what < 5; what++) {
            due("told(1, " + what + ")", x.told(1, what), then[what]);
        }
    }

    public static void main(String[] args) {
        newObject();
        planks();
        rule();
        person();
        told();
        stay();
        hold();
        clear();
        typing();
        lawTexts();
        peopleTexts();
        count();
        fate();
        at();
        gone();
        all();
        soonest();
        order();
        worth();
        waits();
        handed();
        ford();
        shared();
        late();
        other();
        images();
        crowd();
        sheets();
        film();
        CHECK.end();
    }
}
