/**
 * Each sentence of the document's 'the bridge and its people', and of promises 1 to 12, 26 and 27, that names a boundary:
 * a test of its own, on both sides of it.
 */
public final class EdgesOfBridgeTest {
    private static final Check CHECK = new Check();
    private static final int BAD = -1, FULL = -3, NONE = -4, NULL = -11;
    private static final int[] LAW_FIRST = {1, 0, 5, 0, 99, 0};
    private static final int[] LAW_LEAST = {0, 0, 1, 0, 0, 0};
    private static final int[] LAW_MOST = {9, 2, 60, 50, 99, 200};
    private static final long BLANKS = 0x2020202020202020L;

    private static void due(String call, long got, long want) {
        CHECK.due(call, got, want);
    }

    /** A bridge with so many people, all alike. */
    private static PlankBridge crowded(int n) {
        PlankBridge x = new PlankBridge();
        for (int i = 0; i < n; i++) {
            due("person " + i, x.person(0, 0, 0, 5, 1), i);
        }
        return x;
    }

    // ---- the terms

    private static void planksAreOneTo400() {
        CHECK.part("PLANKS (1 .. 400; 20 at first, at MINUTE 0)");
        CHECK.edges("planks", 1, 400, BAD, v -> new PlankBridge().planks(v));
        PlankBridge x = new PlankBridge();
        due("20 at first", x.planks(1), 20);
        due("0 is refused", x.planks(0), BAD);
        due("1 stood", x.planks(400), 1);
        due("401 is refused", x.planks(401), BAD);
        due("400 stood", x.planks(400), 400);
        due("at minute 0", x.at(0, 0), 400);
    }

    private static void lawsHaveEnds() {
        for (int i = 0; i < 6; i++) {
            int what = i;
            CHECK.part("LAW " + what + " (" + LAW_LEAST[what] + " .. " + LAW_MOST[what] + "; " + LAW_FIRST[what] + ")");
            CHECK.edges("rule", LAW_LEAST[what], LAW_MOST[what], BAD, v -> new PlankBridge().rule(what, v));
            PlankBridge x = new PlankBridge();
            due("as at first", x.rule(what, LAW_LEAST[what]), LAW_FIRST[what]);
            due("below is refused", x.rule(what, LAW_LEAST[what] - 1), BAD);
            due("the least stood", x.rule(what, LAW_MOST[what]), LAW_LEAST[what]);
            due("above is refused", x.rule(what, LAW_MOST[what] + 1), BAD);
            due("the most stood", x.rule(what, LAW_FIRST[what]), LAW_MOST[what]);
            for (int other = 0; other < 6; other++) {
                due("law " + other + " is as at first", x.rule(other, LAW_FIRST[other]), LAW_FIRST[other]);
            }
        }
        CHECK.part("LAWS 0 .. 5");
        CHECK.edges("rule what", 0, 5, BAD, what -> new PlankBridge().rule(what, 1));
    }

    private static void peopleAreZeroToNine() {
        CHECK.part("PEOPLE 0 .. 9, as they are told");
        PlankBridge x = crowded(9);
        due("9 is not told", x.told(9, 0), BAD);
        due("the tenth is 9", x.person(7, 0, 0, 5, 1), 9);
        due("9 is told", x.told(9, 0), 7);
        due("an eleventh has no room", x.person(8, 0, 0, 5, 1), FULL);
        due("10 is not told", x.told(10, 0), BAD);
        due("9 is as it was", x.told(9, 0), 7);
        due("ten", x.count(0), 10);
    }

    private static void whatIsToldOfPeopleHasEnds() {
        int[] least = {0, 0, 0, 1, 1};
        int[] most = {499, 1, 3, 20, 6};
        String[] names = {"MINUTE (0 .. 499)", "BANK (0, 1)", "KINDS 0 .. 3", "PACE (1 .. 20)", "TRIPS (1 .. 6)"};
        for (int i = 0; i < 5; i++) {
            int what = i;
            CHECK.part(names[what]);
            CHECK.edges("person", least[what], most[what], BAD, v -> {
                int[] a = {9, 0, 0, 9, 2};
                a[what] = v;
                PlankBridge x = new PlankBridge();
                int answer = x.person(a[0], a[1], a[2], a[3], a[4]);
                due("people with " + v, x.count(0), answer == BAD ? 0 : 1);
                return answer;
            });
        }
    }

    private static void staysAreZeroTo60() {
        CHECK.part("STAY so many MINUTES (0 .. 60; 0 at first)");
        CHECK.edges("stay", 0, 60, BAD, v -> crowded(1).stay(0, v));
        PlankBridge x = crowded(1);
        due("0 at first", x.stay(0, 60), 0);
        due("61 is refused", x.stay(0, 61), BAD);
        due("60 stood", x.stay(0, 0), 60);
        due("-1 is refused", x.stay(0, -1), BAD);
        due("0 stood", x.told(0, 5), 0);
    }

    private static void holdsOneOrNone() {
        CHECK.part("HOLD one other person or none (at first)");
        PlankBridge x = crowded(10);
        due("none at first", x.told(9, 6), NONE);
        due("none at first", x.hold(9, 0), 0);
        due("one at once: the next instead", x.hold(9, 8), 1);
        due("the next", x.told(9, 6), 8);
        due("whom it did is 8", x.hold(9, -1), 9);
        due("none then", x.told(9, 6), NONE);
    }

    private static void pacesByKind() {
        CHECK.part("RUNNING (PACE twice), LOADED (PACE half, cut, 1 at least), SPITING (below RUNNING)");
        int[] told = {1, 2, 3, 4, 5, 19, 20};
        int[][] paces = {{1, 2, 3, 4, 5, 19, 20}, {2, 4, 6, 8, 10, 38, 40}, {1, 1, 1, 2, 2, 9, 10}, {2, 4, 6, 8, 10, 38, 40}};
        for (int kind = 0; kind < 4; kind++) {
            for (int i = 0; i < told.length; i++) {
                PlankBridge x = new PlankBridge();
                x.person(0, 0, kind, told[i], 1);
                due("kind " + kind + " of pace " + told[i], x.told(0, 3), paces[kind][i]);
            }
        }
    }

    // ---- the promises

    private static void aNewObject() {
        CHECK.part("promise 1: A bridge of twenty planks, nobody.");
        PlankBridge x = new PlankBridge();
        due("nobody", x.count(0), 0);
        due("not even 0", x.told(0, 0), BAD);
        due("planks behind 0", x.at(0, 0), 20);
        due("planks behind 999", x.at(999, 0), 20);
        due("no image", x.restore(), NONE);
        due("an empty tape", x.type(' ', 1), 1);
        for (int sheet = 0; sheet < 4; sheet++) {
            due("nothing on sheet " + sheet, x.drop(sheet), NULL);
        }
    }

    private static void personIsBadAheadOfFull() {
        CHECK.part("promise 4: BAD; FULL: 10");
        PlankBridge x = crowded(10);
        due("as told, no room", x.person(499, 1, 3, 20, 6), FULL);
        due("minute 500, no room", x.person(500, 1, 3, 20, 6), BAD);
        due("bank 2, no room", x.person(499, 2, 3, 20, 6), BAD);
        due("kind 4, no room", x.person(499, 1, 4, 20, 6), BAD);
        due("pace 21, no room", x.person(499, 1, 3, 21, 6), BAD);
        due("trips 7, no room", x.person(499, 1, 3, 20, 7), BAD);
        due("ten still", x.count(0), 10);
    }

    private static void toldNamesOneAndWhat() {
        CHECK.part("promise 5: 0 .. 6; BAD");
        CHECK.edges("told of", 0, 2, BAD, v -> crowded(3).told(v, 0));
        CHECK.edges("told what", 0, 6, BAD, v -> crowded(3).told(0, v));
        due("nobody", new PlankBridge().told(0, 6), BAD);
        PlankBridge x = crowded(2);
        due("whom it holds: none", x.told(1, 6), NONE);
        x.hold(1, 0);
        due("whom it holds: 0", x.told(1, 6), 0);
    }

    private static void stayNamesOne() {
        CHECK.part("promise 6: BAD");
        CHECK.edges("stay of", 0, 2, BAD, v -> crowded(3).stay(v, 1));
        due("nobody", new PlankBridge().stay(0, 0), BAD);
    }

    private static void holdNamesOneAndAnother() {
        CHECK.part("promise 7: another one (-1: none); BAD: also itself");
        CHECK.edges("hold of", 0, 2, BAD, v -> crowded(3).hold(v, v == 0 ? 1 : 0));
        CHECK.edges("hold of, none", 0, 2, BAD, v -> crowded(3).hold(v, -1));
        CHECK.edges("hold whom", -1, 2, BAD, v -> crowded(3).hold(v == 0 ? 1 : 0, v));
        PlankBridge x = crowded(2);
        due("0 itself", x.hold(0, 0), BAD);
        due("1 itself", x.hold(1, 1), BAD);
        due("0 holds none still", x.hold(0, 1), 0);
        due("itself again", x.hold(0, 0), BAD);
        due("1 and 1", x.hold(0, -1), 2);
        due("none", x.hold(0, -1), 0);
        due("a lone one can hold none", crowded(1).hold(0, -1), 0);
        due("and nobody else", crowded(1).hold(0, 1), BAD);
        due("nobody", new PlankBridge().hold(0, -1), BAD);
    }

    private static void clearLeavesRoom() {
        CHECK.part("promise 8: All PEOPLE go: how many.");
        due("of nobody", new PlankBridge().clear(), 0);
        PlankBridge x = crowded(10);
        x.hold(0, 9);
        x.stay(0, 60);
        due("of ten", x.clear(), 10);
        due("0 is gone", x.told(0, 0), BAD);
        due("none holds", x.hold(0, -1), BAD);
        due("the first again", x.person(1, 1, 1, 1, 1), 0);
        due("holds none", x.told(0, 6), NONE);
        due("stays 0", x.told(0, 5), 0);
        due("9 is gone", x.hold(0, 9), BAD);
    }

    private static void typeTakesOneToEight() {
        CHECK.part("promise 9: The n lowest bytes (1 .. 8)");
        CHECK.edges("type n", 1, 8, BAD, n -> new PlankBridge().type(BLANKS, n));
        PlankBridge x = new PlankBridge();
        due("one", x.type(Bridges.word("g7"), 1), 1);
        due("the lowest: 7 can't stand there", x.laws(), -20);
        due("eight", x.type(Bridges.word("g7c1w9n8"), 8), 8);
        due("the highest first", x.laws(), 4);
        due("the first of them", x.rule(0, 1), 7);
        due("the last of them", x.rule(3, 0), 8);
        due("two of eight", x.type(Bridges.word("g7c1w9n6"), 2), 2);
        due("one law", x.laws(), 1);
        due("the last of them", x.rule(3, 0), 6);
    }

    private static void bytesAre32To126() {
        CHECK.part("promise 9: a byte not 32 .. 126");
        for (int place = 0; place < 8; place++) {
            int shift = 8 * place;
            long blanks = BLANKS & ~(255L << shift);
            for (int sign = 0; sign < 256; sign++) {
                int want = sign < 32 || sign > 126 ? BAD : 8;
                due("byte " + sign + " at " + place, new PlankBridge().type(blanks | (long) sign << shift, 8), want);
            }
            due("a byte that is not taken", new PlankBridge().type(blanks, place), place == 0 ? BAD : place);
            due("one that is", new PlankBridge().type(blanks, place + 1), BAD);
        }
        PlankBridge x = new PlankBridge();
        x.type(' ', 1);
        due("a wrong byte behind", x.type(0x201FL, 2), BAD);
        due("nothing came", x.type(' ', 1), 2);
    }

    private static void theTapeHas80() {
        CHECK.part("promise 9: FULL: 80");
        for (int n = 1; n <= 8; n++) {
            PlankBridge x = new PlankBridge();
            Bridges.type(x, " ".repeat(80 - n));
            if (n < 8) {
                due("one too many", x.type(BLANKS, n + 1), FULL);
            }
            due("so many have room", x.type(BLANKS, n), 80);
            due("no other", x.type(' ', 1), FULL);
            due("a wrong one", x.type(127, 1), BAD);
            due("80 bytes", x.laws(), -100);
            due("then there is room", x.type(' ', 1), 1);
        }
    }

    private static void imagesAreThereOrNot() {
        CHECK.part("promises 26, 27: NONE: there is none");
        PlankBridge x = crowded(2);
        due("none", x.restore(), NONE);
        due("nothing changed", x.count(0), 2);
        due("image", x.image(), 1);
        x.clear();
        due("there is one", x.restore(), 1);
        due("as then", x.count(0), 2);
        due("it is there still", x.restore(), 1);
        PlankBridge full = crowded(10);
        full.hold(9, 0);
        full.stay(9, 60);
        full.rule(5, 200);
        full.planks(400);
        due("image of ten", full.image(), 1);
        full.clear();
        full.rule(5, 0);
        full.planks(1);
        due("restored", full.restore(), 1);
        due("ten", full.count(0), 10);
        due("no room", full.person(0, 0, 0, 5, 1), FULL);
        due("9 holds 0", full.told(9, 6), 0);
        due("9 stays 60", full.told(9, 5), 60);
        due("ford", full.rule(5, 0), 200);
        due("planks", full.planks(20), 400);
        imagesKeepEachOfThem();
        PlankBridge empty = new PlankBridge();
        due("image of nobody", empty.image(), 1);
        empty.person(0, 0, 0, 5, 1);
        due("restored", empty.restore(), 1);
        due("nobody", empty.count(0), 0);
        due("nor 0", empty.told(0, 0), BAD);
    }

    /** Ten others take the places of those in the image; then those are back, all as they were. */
    private static void imagesKeepEachOfThem() {
        PlankBridge x = new PlankBridge();
        for (int i = 0; i < 10; i++) {
            x.person(i, i % 2, i % 4, 2 + i, 1 + i % 6);
            x.stay(i, i);
        }
        for (int i = 0; i < 10; i++) {
            x.hold(i, 9 - i);
        }
        x.image();
        x.clear();
        for (int i = 0; i < 10; i++) {
            x.person(499, 1 - i % 2, 3 - i % 4, 20, 6 - i % 6);
            x.stay(i, 60);
        }
        due("restored", x.restore(), 1);
        for (int i = 0; i < 10; i++) {
            int pace = i % 4 == 0 ? 2 + i : i % 4 == 2 ? (2 + i) / 2 : 2 * (2 + i);
            int[] want = {i, i % 2, i % 4, pace, 1 + i % 6, i, 9 - i};
            for (int what = 0; what < 7; what++) {
                due("told(" + i + ", " + what + ")", x.told(i, what), want[what]);
            }
        }
    }

    private static void imagesLeaveSheetsAndTape() {
        CHECK.part("promise 26: All but SHEETS, THE TAPE");
        PlankBridge x = new PlankBridge();
        x.sheet(0, 0, 24);
        x.type('g', 1);
        x.image();
        x.drop(0);
        x.sheet(1, 2, 3);
        x.type('7', 1);
        due("restore", x.restore(), 1);
        due("sheet 0 is missing", x.drop(0), NULL);
        due("sheet 1 is there", x.drop(1), 3);
        due("the tape has two", x.type(' ', 1), 3);
        due("and is as it was", x.laws(), 1);
        due("grows", x.rule(0, 1), 7);
        x.type('g', 1);
        x.image();
        due("the tape is read", x.laws(), -21);
        due("restore", x.restore(), 1);
        due("the tape is empty still", x.laws(), -20);
    }

    private static void countsAreZeroToTwo() {
        CHECK.part("promise 12: 0 .. 2; BAD");
        CHECK.edges("count", 0, 2, BAD, v -> crowded(1).count(v));
        PlankBridge x = new PlankBridge();
        for (int i = 0; i < 10; i++) {
            x.person(0, i == 9 ? 0 : 1, 0, 1, 6);
        }
        due("people at most", x.count(0), 10);
        due("trips at most", x.count(1), 60);
        due("to bank 0", x.count(2), 1);
        due("all to bank 0", crowded(10).count(2), 10);
        for (int what = 0; what < 3; what++) {
            due("of nobody", new PlankBridge().count(what), 0);
        }
    }

    public static void main(String[] args) {
        planksAreOneTo400();
        lawsHaveEnds();
        peopleAreZeroToNine();
        whatIsToldOfPeopleHasEnds();
        staysAreZeroTo60();
        holdsOneOrNone();
        pacesByKind();
        aNewObject();
        personIsBadAheadOfFull();
        toldNamesOneAndWhat();
        stayNamesOne();
        holdNamesOneAndAnother();
        clearLeavesRoom();
        typeTakesOneToEight();
        bytesAre32To126();
        theTapeHas80();
        imagesAreThereOrNot();
        imagesLeaveSheetsAndTape();
        countsAreZeroToTwo();
        CHECK.end();
    }
}
