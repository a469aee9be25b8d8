/** Each sentence on SHEETS, and of promises 28 to 32, that names a boundary: a test of its own, on both sides of it. */
public final class EdgesOfSheetsTest {
    private static final Check CHECK = new Check();
    private static final int BAD = -1, NOT = -2, FULL = -3, NULL = -11, CAST = -12, INDEX = -13, SIZE = -14;
    private static final int MIN = Integer.MIN_VALUE, MAX = Integer.MAX_VALUE;
    private static final int BYTES = 0, SHORTS = 1, INTS = 2;

    private static void due(String call, long got, long want) {
        CHECK.due(call, got, want);
    }

    /** An object with one sheet. */
    private static PlankBridge sheeted(int sheet, int lane, int n) {
        return put(new PlankBridge(), sheet, lane, n);
    }

    private static PlankBridge put(PlankBridge x, int sheet, int lane, int n) {
        due("sheet(" + sheet + ", " + lane + ", " + n + ")", x.sheet(sheet, lane, n), n);
        return x;
    }

    private static void fill(PlankBridge x, int sheet, int lane, int from, int... items) {
        for (int i = 0; i < items.length; i++) {
            due("item " + (from + i), x.item(sheet, lane, from + i, items[i]), 1);
        }
    }

    /** An object with a sheet 0 of 20 items that tell four people. */
    private static PlankBridge written(int lane) {
        PlankBridge x = sheeted(0, lane, 20);
        for (int i = 0; i < 4; i++) {
            fill(x, 0, lane, 5 * i, 10 + i, 0, 0, 1 + i, 1 + i);
        }
        return x;
    }

    // ---- sheet, drop

    private static void sheetsAreZeroToThree() {
        CHECK.part("sheets 0 .. 3: nothing (at first)");
        CHECK.edges("sheet", 0, 3, BAD, v -> new PlankBridge().sheet(v, 0, 5));
        CHECK.edges("drop", 0, 3, BAD, v -> new PlankBridge().drop(v));
        CHECK.edges("item", 0, 3, BAD, v -> new PlankBridge().item(v, 0, 0, 0));
        CHECK.edges("crowd", 0, 3, BAD, v -> new PlankBridge().crowd(v, 0, 0, 1));
        CHECK.edges("film", 0, 3, BAD, v -> new PlankBridge().film(v, 0, 0));
        for (int sheet = 0; sheet < 4; sheet++) {
            PlankBridge x = new PlankBridge();
            due("nothing to drop", x.drop(sheet), NULL);
            due("no item", x.item(sheet, 0, 0, 0), NULL);
            due("no crowd", x.crowd(sheet, 0, 0, 1), NULL);
            due("no film", x.film(sheet, 0, 0), NULL);
            put(x, sheet, 0, 5);
            for (int other = 0; other < 4; other++) {
                due("the others still hold nothing", x.drop(other), other == sheet ? 5 : NULL);
            }
            due("nor this one now", x.drop(sheet), NULL);
        }
    }

    private static void lanesAreZeroToTwo() {
        CHECK.part("a LANE: 0 bytes, 1 shorts, 2 ints");
        CHECK.edges("sheet", 0, 2, BAD, v -> new PlankBridge().sheet(0, v, 5));
        CHECK.edges("item", 0, 2, BAD, v -> new PlankBridge().item(0, v, 0, 0));
        CHECK.edges("crowd", 0, 2, BAD, v -> new PlankBridge().crowd(0, v, 0, 1));
        CHECK.edges("film", 0, 2, BAD, v -> new PlankBridge().film(0, v, 0));
    }

    private static void rowsHaveZeroTo24Items() {
        CHECK.part("of 0 to 24 items; BAD: also n above 24; SIZE: n below 0");
        int[][] want = {{MIN, SIZE}, {-1, SIZE}, {0, 0}, {1, 1}, {23, 23}, {24, 24}, {25, BAD}, {MAX, BAD}};
        for (int lane = 0; lane < 3; lane++) {
            for (int[] row : want) {
                PlankBridge x = sheeted(2, INTS, 7);
                due("sheet of " + row[0], x.sheet(2, lane, row[0]), row[1]);
                due("what it holds then", x.drop(2), row[1] < 0 ? 7 : row[1]);
            }
        }
        PlankBridge x = new PlankBridge();
        due("a refused one is nothing still", x.sheet(0, 0, -1), SIZE);
        due("nothing", x.drop(0), NULL);
        due("BAD ahead of SIZE: sheet", x.sheet(4, 0, -1), BAD);
        due("BAD ahead of SIZE: sheet", x.sheet(-1, 0, -1), BAD);
        due("BAD ahead of SIZE: lane", x.sheet(0, 3, -1), BAD);
        due("BAD ahead of SIZE: lane", x.sheet(0, -1, -1), BAD);
    }

    private static void newRowsAreEmpty() {
        CHECK.part("promise 29: A SHEET holds a new row");
        PlankBridge x = written(SHORTS);
        due("written", x.crowd(0, SHORTS, 0, 1), 1);
        put(x, 0, SHORTS, 20);
        due("its items are 0: no pace", x.crowd(0, SHORTS, 0, 1), NOT);
        fill(x, 0, SHORTS, 3, 1, 1);
        due("pace and trips", x.crowd(0, SHORTS, 0, 1), 1);
        due("minute 0", x.told(1, 0), 0);
        due("the last row is empty, too", x.crowd(0, SHORTS, 15, 1), NOT);
        fill(x, 0, SHORTS, 18, 1, 1);
        due("pace and trips", x.crowd(0, SHORTS, 15, 1), 1);
        due("minute 0", x.told(2, 0), 0);
        put(x, 0, BYTES, 20);
        due("another lane now", x.crowd(0, SHORTS, 0, 1), CAST);
        due("this one", x.crowd(0, BYTES, 0, 1), NOT);
    }

    private static void dropsTellHowMany() {
        CHECK.part("promise 30: how many items it had. BAD; NULL");
        for (int n : new int[] {0, 1, 24}) {
            PlankBridge x = sheeted(1, BYTES, n);
            due("drop", x.drop(1), n);
            due("a row of none is no missing one", x.drop(1), NULL);
            due("item", x.item(1, BYTES, 0, 0), NULL);
        }
    }

    // ---- item

    private static void itemsAreWithinTheRow() {
        CHECK.part("promise 31: Item i. INDEX");
        for (int lane = 0; lane < 3; lane++) {
            for (int n : new int[] {1, 2, 23, 24}) {
                int of = n;
                int as = lane;
                CHECK.edges("item of " + n, 0, n - 1, INDEX, i -> sheeted(3, as, of).item(3, as, i, 0));
            }
            for (int i : new int[] {MIN, -1, 0, 1, MAX}) {
                due("no item in a row of none", sheeted(3, lane, 0).item(3, lane, i, 0), INDEX);
            }
        }
    }

    private static void itemRefusalsAreInOrder() {
        CHECK.part("NULL, CAST, INDEX in this order, behind BAD: item");
        PlankBridge x = sheeted(0, SHORTS, 1);
        due("BAD ahead of NULL", x.item(1, 3, 0, 0), BAD);
        due("BAD ahead of CAST", x.item(0, 3, 1, 0), BAD);
        due("BAD ahead of INDEX", x.item(4, SHORTS, 1, 0), BAD);
        due("NULL ahead of INDEX", x.item(1, SHORTS, -1, 0), NULL);
        due("CAST ahead of INDEX", x.item(0, BYTES, 1, 0), CAST);
        due("CAST ahead of INDEX", x.item(0, INTS, -1, 0), CAST);
        due("INDEX", x.item(0, SHORTS, 1, 0), INDEX);
        due("none", x.item(0, SHORTS, 0, 0), 1);
    }

    private static void otherLanesAreRefused() {
        CHECK.part("CAST (of SHEETS another LANE)");
        for (int lane = 0; lane < 3; lane++) {
            for (int as = 0; as < 3; as++) {
                PlankBridge x = written(lane);
                due("item of " + lane + " as " + as, x.item(0, as, 0, 1), as == lane ? 1 : CAST);
                due("crowd of " + lane + " as " + as, x.crowd(0, as, 0, 1), as == lane ? 1 : CAST);
                due("film of " + lane + " as " + as, x.film(0, as, 0), as == lane ? 1 : CAST);
            }
        }
    }

    /** What a number becomes as an item, told by who comes in its minute; NOT if that may not be. */
    private static int asItem(int lane, int v) {
        PlankBridge x = sheeted(0, lane, 5);
        fill(x, 0, lane, 0, v, 0, 0, 1, 1);
        int answer = x.crowd(0, lane, 0, 1);
        return answer == 1 ? x.told(0, 0) : answer;
    }

    private static void itemsAreLowestBits() {
        CHECK.part("becomes v, its lowest bits");
        int[][] bytes = {{0, 0}, {127, 127}, {128, NOT}, {255, NOT}, {256, 0}, {256 + 127, 127}, {256 + 128, NOT}, {-1, NOT},
            {-128, NOT}, {-129, 127}, {-256, 0}, {MAX, NOT}, {MIN, 0}, {MIN + 5, 5}, {499, NOT}};
        for (int[] row : bytes) {
            due("byte " + row[0], asItem(BYTES, row[0]), row[1]);
        }
        int[][] shorts = {{0, 0}, {128, 128}, {256, 256}, {499, 499}, {500, NOT}, {32767, NOT}, {32768, NOT}, {65535, NOT},
            {65536, 0}, {65536 + 499, 499}, {65536 + 500, NOT}, {-1, NOT}, {-65536 + 7, 7}, {MAX, NOT}, {MIN, 0}};
        for (int[] row : shorts) {
            due("short " + row[0], asItem(SHORTS, row[0]), row[1]);
        }
        int[][] ints = {{0, 0}, {256, 256}, {499, 499}, {500, NOT}, {65536, NOT}, {65536 + 499, NOT}, {-1, NOT}, {MAX, NOT},
            {MIN, NOT}};
        for (int[] row : ints) {
            due("int " + row[0], asItem(INTS, row[0]), row[1]);
        }
    }

    // ---- crowd

    private static void crowdsAreOneToFour() {
        CHECK.part("by n rows (1 .. 4) of five items");
        CHECK.edges("crowd of", 1, 4, BAD, n -> written(SHORTS).crowd(0, SHORTS, 0, n));
        for (int n = 1; n <= 4; n++) {
            PlankBridge x = written(SHORTS);
            due("crowd", x.crowd(0, SHORTS, 0, n), n);
            due("so many came", x.count(0), n);
            for (int i = 0; i < n; i++) {
                int[] want = {10 + i, 0, 0, 1 + i, 1 + i};
                for (int what = 0; what < 5; what++) {
                    due("told(" + i + ", " + what + ")", x.told(i, what), want[what]);
                }
            }
        }
    }

    private static void crowdsAreWithinTheRow() {
        CHECK.part("promise 28: from one on. INDEX");
        for (int n = 1; n <= 4; n++) {
            int rows = n;
            // Every row of these is one that may come, from any item on.
            CHECK.edges("crowd of " + n, 0, 24 - 5 * n, INDEX, from -> ones(24).crowd(0, BYTES, from, rows));
            due("just so many items", ones(5 * n).crowd(0, BYTES, 0, n), n);
            due("an item fewer", ones(5 * n - 1).crowd(0, BYTES, 0, n), INDEX);
            due("none", ones(0).crowd(0, BYTES, 0, n), INDEX);
        }
    }

    /** An object with a sheet 0 of bytes that are all 1. */
    private static PlankBridge ones(int n) {
        PlankBridge x = sheeted(0, BYTES, n);
        for (int i = 0; i < n; i++) {
            due("item", x.item(0, BYTES, i, 1), 1);
        }
        return x;
    }

    private static void crowdsAreAsTold() {
        CHECK.part("NOT: one is not as told (none comes in these)");
        int[] least = {0, 0, 0, 1, 1};
        int[] most = {499, 1, 3, 20, 6};
        for (int row = 0; row < 4; row++) {
            for (int what = 0; what < 5; what++) {
                for (int v : new int[] {least[what] - 1, least[what], most[what], most[what] + 1}) {
                    boolean may = v >= least[what] && v <= most[what];
                    PlankBridge x = written(SHORTS);
                    fill(x, 0, SHORTS, 5 * row + what, v);
                    due("item " + what + " of row " + row + " is " + v, x.crowd(0, SHORTS, 0, 4), may ? 4 : NOT);
                    due("came", x.count(0), may ? 4 : 0);
                    due("the rows ahead of it", row == 0 ? 1 : x.crowd(0, SHORTS, 0, row), row == 0 ? 1 : row);
                }
            }
        }
    }

    private static void crowdsHaveRoom() {
        CHECK.part("FULL: not all have room (none comes in these)");
        for (int n = 1; n <= 4; n++) {
            PlankBridge x = written(INTS);
            for (int i = 0; i < 10 - n; i++) {
                x.person(0, 0, 0, 1, 1);
            }
            if (n < 4) {
                due("one too many", x.crowd(0, INTS, 0, n + 1), FULL);
                due("none came", x.count(0), 10 - n);
            }
            due("so many have room", x.crowd(0, INTS, 0, n), n);
            due("all came", x.count(0), 10);
            due("no other", x.crowd(0, INTS, 0, 1), FULL);
        }
    }

    private static void crowdRefusalsAreInOrder() {
        CHECK.part("BAD; NULL; CAST; INDEX; NOT; FULL: crowd");
        PlankBridge x = written(SHORTS);
        for (int i = 0; i < 10; i++) {
            x.person(0, 0, 0, 1, 1);
        }
        fill(x, 0, SHORTS, 18, 0);
        due("BAD of sheet ahead of INDEX", x.crowd(4, SHORTS, 99, 1), BAD);
        due("BAD of lane ahead of NULL", x.crowd(1, 3, 0, 1), BAD);
        due("BAD of n ahead of NULL", x.crowd(1, SHORTS, 0, 5), BAD);
        due("BAD of n ahead of CAST", x.crowd(0, INTS, 0, 0), BAD);
        due("BAD of n ahead of INDEX", x.crowd(0, SHORTS, -1, 5), BAD);
        due("NULL ahead of INDEX", x.crowd(1, SHORTS, -1, 1), NULL);
        due("CAST ahead of INDEX", x.crowd(0, BYTES, -1, 1), CAST);
        due("CAST ahead of NOT", x.crowd(0, INTS, 15, 1), CAST);
        due("INDEX ahead of NOT: the first row is not as told", x.crowd(0, SHORTS, 15, 2), INDEX);
        due("INDEX ahead of FULL", x.crowd(0, SHORTS, 1, 4), INDEX);
        due("NOT ahead of FULL", x.crowd(0, SHORTS, 15, 1), NOT);
        due("NOT ahead of FULL: the last row is not as told", x.crowd(0, SHORTS, 0, 4), NOT);
        due("FULL", x.crowd(0, SHORTS, 0, 3), FULL);
        due("none came", x.count(0), 10);
    }

    // ---- film

    private static PlankBridge walkers(int n) {
        PlankBridge x = new PlankBridge();
        x.rule(0, 0);
        for (int i = 0; i < n; i++) {
            due("person", x.person(i, 0, 0, 20, 1), i);
        }
        return x;
    }

    private static void filmsAreWithinTheRow() {
        CHECK.part("promise 32: from one on: how many. INDEX");
        for (int n : new int[] {1, 2, 9, 10}) {
            CHECK.edges("film of " + n, 0, 24 - n, INDEX, from -> put(walkers(n), 0, SHORTS, 24).film(0, SHORTS, from));
            due("just so many items", put(walkers(n), 0, SHORTS, n).film(0, SHORTS, 0), n);
            due("an item fewer", put(walkers(n), 0, SHORTS, n - 1).film(0, SHORTS, 0), INDEX);
        }
    }

    private static void filmOfNobody() {
        CHECK.part("promise 32, nobody: none comes to the sheet");
        due("from the first", sheeted(0, SHORTS, 5).film(0, SHORTS, 0), 0);
        due("from the end", sheeted(0, SHORTS, 5).film(0, SHORTS, 5), 0);
        due("in a row of none", sheeted(0, SHORTS, 0).film(0, SHORTS, 0), 0);
        due("missing", new PlankBridge().film(0, SHORTS, 0), NULL);
        due("another lane", sheeted(0, SHORTS, 5).film(0, INTS, 0), CAST);
    }

    private static void filmRefusalsAreInOrder() {
        CHECK.part("BAD; NULL; CAST; INDEX: film");
        PlankBridge x = put(walkers(2), 0, SHORTS, 2);
        due("BAD of sheet", x.film(4, SHORTS, 99), BAD);
        due("BAD of lane ahead of NULL", x.film(1, 3, 0), BAD);
        due("BAD of lane ahead of INDEX", x.film(0, -1, 1), BAD);
        due("NULL ahead of INDEX", x.film(1, SHORTS, -1), NULL);
        due("CAST ahead of INDEX", x.film(0, BYTES, 1), CAST);
        due("INDEX", x.film(0, SHORTS, 1), INDEX);
        due("none", x.film(0, SHORTS, 0), 2);
    }

    /** When a lone one is over who comes in a minute, over a bridge of so many planks, as film and crowd() tell it. */
    private static int filmed(int lane, String people, int planks) {
        PlankBridge x = Bridges.of(planks, "g0", people);
        put(x, 0, lane, 5);
        fill(x, 0, lane, 0, 77, 0, 0, 1, 1);
        due("film", x.film(0, lane, 0), 1);
        int answer = x.crowd(0, lane, 0, 1);
        return answer == 1 ? x.told(1, 0) : answer;
    }

    private static void filmsAreLowestBits() {
        CHECK.part("as its lowest bits");
        int[][] bytes = {{0, 1}, {126, 127}, {127, NOT}, {254, NOT}, {255, 0}, {256, 1}, {382, 127}, {383, NOT}, {499, NOT}};
        for (int[] row : bytes) {
            due("byte: over in " + (row[0] + 1), filmed(BYTES, row[0] + "nw1", 1), row[1]);
        }
        for (int lane = SHORTS; lane <= INTS; lane++) {
            int[][] wide = {{0, 1}, {127, 128}, {255, 256}, {498, 499}, {499, NOT}};
            for (int[] row : wide) {
                due("lane " + lane + ": over in " + (row[0] + 1), filmed(lane, row[0] + "nw1", 1), row[1]);
            }
        }
    }

    private static void filmsOfThoseNotOver() {
        CHECK.part("When all are OVER (1000: not)");
        // As bytes 999 is -25 and 1000 is -24, so that no person can tell them; but 1000 is none that may come.
        for (int lane = 0; lane < 3; lane++) {
            due("not over", filmed(lane, "499nw1t2", 400), NOT);
        }
        // By a person who is over in 1: 0 would be a bank, NONE would be none.
        PlankBridge x = Bridges.of(1, "g0", "0nw1;0nw1;0nw1;0nw1;0nw1");
        put(x, 0, BYTES, 5);
        due("film", x.film(0, BYTES, 0), 5);
        due("as a person", x.crowd(0, BYTES, 0, 1), 1);
        for (int what = 0; what < 5; what++) {
            due("told " + what, x.told(5, what), what == 3 ? 2 : 1);
        }
    }

    private static void filmsAreByNumbers() {
        CHECK.part("by numbers, from one on");
        // Over in 9, 1, 2, 3, 4: minute 9, bank 1, kind 2 (loaded), pace 3 (half, 1), trips 4.
        PlankBridge x = Bridges.of(20, "g0", "8nw20;0nw20;1nw20;2nw20;3nw20");
        put(x, 0, SHORTS, 11);
        fill(x, 0, SHORTS, 0, 1, 1, 1, 1, 1, 1, 1, 1, 1, 1, 1);
        due("film", x.film(0, SHORTS, 3), 5);
        due("as a person", x.crowd(0, SHORTS, 3, 1), 1);
        int[] want = {9, 1, 2, 1, 4};
        for (int what = 0; what < 5; what++) {
            due("told " + what, x.told(5, what), want[what]);
        }
        x.item(0, SHORTS, 3, 1);
        due("ahead of it as it was", x.crowd(0, SHORTS, 0, 1), 1);
        for (int what = 0; what < 5; what++) {
            due("told " + what, x.told(6, what), what == 3 ? 2 : 1);
        }
        fill(x, 0, SHORTS, 6, 1, 1);
        due("behind it as it was", x.crowd(0, SHORTS, 6, 1), 1);
        for (int what = 0; what < 5; what++) {
            due("told " + what, x.told(7, what), what == 3 ? 2 : 1);
        }
    }

    public static void main(String[] args) {
        sheetsAreZeroToThree();
        lanesAreZeroToTwo();
        rowsHaveZeroTo24Items();
        newRowsAreEmpty();
        dropsTellHowMany();
        itemsAreWithinTheRow();
        itemRefusalsAreInOrder();
        otherLanesAreRefused();
        itemsAreLowestBits();
        crowdsAreOneToFour();
        crowdsAreWithinTheRow();
        crowdsAreAsTold();
        crowdsHaveRoom();
        crowdRefusalsAreInOrder();
        filmsAreWithinTheRow();
        filmOfNobody();
        filmRefusalsAreInOrder();
        filmsAreLowestBits();
        filmsOfThoseNotOver();
        filmsAreByNumbers();
        CHECK.end();
    }
}
