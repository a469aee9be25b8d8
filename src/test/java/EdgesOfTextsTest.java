/**
 * Each sentence on TEXTS and FAULTS, and of promises 10 and 11, that names a boundary: a test of its own, on both sides
 * of it.
 */
public final class EdgesOfTextsTest {
    private static final Check CHECK = new Check();
    private static final int FULL = -3;
    private static final String LETTERS = "gcwnrf";
    private static final int[] LAW_FIRST = {1, 0, 5, 0, 99, 0};
    private static final int[] LAW_LEAST = {0, 0, 1, 0, 0, 0};
    private static final int[] LAW_MOST = {9, 2, 60, 50, 99, 200};

    private static void due(String call, long got, long want) {
        CHECK.due(call, got, want);
    }

    /** A text that is no laws: the fault is at a place, no law becomes so, the tape is empty. */
    private static void faultyLaws(String text, int place) {
        PlankBridge x = new PlankBridge();
        due("laws '" + text + "'", Bridges.laws(x, text), -20 - place);
        for (int what = 0; what < 6; what++) {
            due("law " + what + " behind '" + text + "'", x.rule(what, LAW_FIRST[what]), LAW_FIRST[what]);
        }
        due("the tape behind '" + text + "'", x.type(' ', 1), 1);
    }

    /** A text that is no people: the fault is at a place, none comes, the tape is empty. */
    private static void faultyPeople(String text, int place) {
        PlankBridge x = new PlankBridge();
        due("people '" + text + "'", Bridges.people(x, text), -20 - place);
        due("none comes by '" + text + "'", x.count(0), 0);
        due("the tape behind '" + text + "'", x.type(' ', 1), 1);
    }

    private static void goodLaws(String text, int n) {
        PlankBridge x = new PlankBridge();
        due("laws '" + text + "'", Bridges.laws(x, text), n);
        due("the tape behind '" + text + "'", x.type(' ', 1), 1);
    }

    private static void goodPeople(String text, int n) {
        PlankBridge x = new PlankBridge();
        due("people '" + text + "'", Bridges.people(x, text), n);
        due("so many come by '" + text + "'", x.count(0), n);
        due("the tape behind '" + text + "'", x.type(' ', 1), 1);
    }

    // ---- laws

    private static void lawNumbersHaveEnds() {
        CHECK.part("LAWS are a TEXT: each with a number");
        for (int what = 0; what < 6; what++) {
            char letter = LETTERS.charAt(what);
            for (int v : new int[] {LAW_LEAST[what], LAW_MOST[what]}) {
                PlankBridge x = new PlankBridge();
                due("laws " + letter + v, Bridges.laws(x, letter + "" + v), 1);
                for (int other = 0; other < 6; other++) {
                    int want = other == what ? v : LAW_FIRST[other];
                    due("law " + other + " by " + letter + v, x.rule(other, LAW_FIRST[other]), want);
                }
            }
            if (LAW_LEAST[what] > 0) {
                faultyLaws(letter + "" + (LAW_LEAST[what] - 1), 1);
            }
            faultyLaws(letter + "" + (LAW_MOST[what] + 1), 1);
        }
    }

    private static void oneLawAtLeast() {
        CHECK.part("each or not, one at least");
        faultyLaws("", 0);
        faultyLaws(" ", 1);
        faultyLaws("   ", 3);
        goodLaws("g1", 1);
        goodLaws("g1c1", 2);
        goodLaws("g1f1", 2);
        goodLaws("w1n1r1", 3);
        goodLaws("g1c1w1n1r1", 5);
        goodLaws("g1c1w1n1r1f1", 6);
    }

    private static void lawsAreInOrder() {
        CHECK.part("in this order");
        for (int first = 0; first < 6; first++) {
            for (int second = 0; second < 6; second++) {
                String text = LETTERS.charAt(first) + "1" + LETTERS.charAt(second) + "1";
                if (first < second) {
                    goodLaws(text, 2);
                } else {
                    faultyLaws(text, 2);
                }
            }
        }
        faultyLaws("g1c1w1n1r1f1f1", 12);
        faultyLaws("g1c1w1n1r1f1g1", 12);
    }

    private static void lawLettersAreThese() {
        CHECK.part("g, c, w, n, r, f");
        for (char sign = 32; sign < 127; sign++) {
            if (LETTERS.indexOf(sign) >= 0) {
                goodLaws(sign + "1", 1);
            } else {
                faultyLaws(sign + "1", sign == ' ' ? 1 : 0);
            }
        }
    }

    private static void lawsAreAllOrNone() {
        CHECK.part("A FAULT (none does)");
        faultyLaws("g9c2w60n50r0f", 13);
        faultyLaws("g9c2w60n50r0f201", 13);
        faultyLaws("g9c2w60n50r0f200;", 16);
        goodLaws("g9c2w60n50r0f200", 6);
    }

    // ---- people

    private static void oneToSixPeople() {
        CHECK.part("PEOPLE are a TEXT: 1 to 6 with ; between");
        faultyPeople("", 0);
        goodPeople("0nw1", 1);
        goodPeople("0nw1;0nw1", 2);
        goodPeople("0nw1;0nw1;0nw1;0nw1;0nw1;0nw1", 6);
        faultyPeople("0nw1;0nw1;0nw1;0nw1;0nw1;0nw1;0nw1", 29);
        faultyPeople("0nw1;0nw1;0nw1;0nw1;0nw1;0nw1;", 29);
        faultyPeople("0nw1;0nw1;0nw1;0nw1;0nw1;0nw1 ;", 30);
        faultyPeople("0nw1;0nw1;0nw1;0nw1;0nw1;", 25);
        faultyPeople(";", 0);
        faultyPeople("0nw1;", 5);
        faultyPeople("0nw1; ", 6);
        faultyPeople("0nw1;;0nw1", 5);
        faultyPeople("0nw10nw1", 5);
        faultyPeople("0nw1 0nw1", 5);
    }

    private static void personNumbersHaveEnds() {
        CHECK.part("a number (MINUTE), .. a number (PACE)");
        goodPeople("0nw1", 1);
        goodPeople("499nw1", 1);
        faultyPeople("500nw1", 0);
        faultyPeople("-1nw1", 0);
        goodPeople("0nw20", 1);
        faultyPeople("0nw21", 3);
        faultyPeople("0nw0", 3);
        faultyPeople("0nw-1", 3);
        faultyPeople("0nw1;500nw1", 5);
        faultyPeople("0nw1;0nw21", 8);
    }

    private static void banksAndKindsAreLetters() {
        CHECK.part("n or s (BANK 0, 1), a KIND's letter w r l s (in this order)");
        String banks = "ns";
        String kinds = "wrls";
        for (char sign = 33; sign < 127; sign++) {
            boolean digit = sign >= '0' && sign <= '9';
            PlankBridge x = new PlankBridge();
            if (banks.indexOf(sign) >= 0) {
                due("bank " + sign, Bridges.people(x, "0" + sign + "w1"), 1);
                due("told of it", x.told(0, 1), banks.indexOf(sign));
            } else {
                // A digit goes with the number, so that the letter behind it can't stand there.
                faultyPeople("0" + sign + "w1", digit ? 2 : 1);
            }
            x = new PlankBridge();
            if (kinds.indexOf(sign) >= 0) {
                due("kind " + sign, Bridges.people(x, "0n" + sign + "1"), 1);
                due("told of it", x.told(0, 2), kinds.indexOf(sign));
            } else {
                faultyPeople("0n" + sign + "1", 2);
            }
        }
    }

    private static void tripsAreOneDigit() {
        CHECK.part("then perhaps t and a digit (TRIPS; 1)");
        for (int trips = 0; trips <= 9; trips++) {
            String text = "0nw1t" + trips;
            if (trips < 1 || trips > 6) {
                faultyPeople(text, 5);
            } else {
                PlankBridge x = new PlankBridge();
                due(text, Bridges.people(x, text), 1);
                due("trips by " + text, x.told(0, 4), trips);
            }
        }
        PlankBridge x = new PlankBridge();
        due("no t", Bridges.people(x, "0nw1"), 1);
        due("then one", x.told(0, 4), 1);
        faultyPeople("0nw1t", 5);
        faultyPeople("0nw1t ", 6);
        faultyPeople("0nw1t;", 5);
        faultyPeople("0nw1t01", 5);
        faultyPeople("0nw1t10", 6);
        faultyPeople("0nw1t66", 6);
        faultyPeople("0nw1t1 1", 7);
        faultyPeople("0nw1t1t1", 6);
        faultyPeople("0nw1T1", 4);
        goodPeople("0nw1 t 6", 1);
        goodPeople("0nw1t6;0nw1t6", 2);
    }

    private static void placesBySign() {
        CHECK.part("the first byte that can't stand there (the end: how many bytes there are)");
        String whole = "12nw3t4;5ss6";
        int[] ends = {0, 1, 2, 3, 4, -1, 6, -1, 8, 9, 10, 11};
        for (int n = 0; n < whole.length(); n++) {
            if (ends[n] >= 0) {
                faultyPeople(whole.substring(0, n), ends[n]);
            } else {
                goodPeople(whole.substring(0, n), 1);
            }
        }
        goodPeople(whole, 2);
        faultyPeople("x", 0);
        faultyPeople("12x", 2);
        faultyPeople("12nx", 3);
        faultyPeople("12nwx", 4);
        faultyPeople("12nw3x", 5);
        faultyPeople("12nw3tx", 6);
        faultyPeople("12nw3t4x", 7);
        faultyPeople("12nw3t4;x", 8);
        faultyLaws("g", 1);
        faultyLaws("gx", 1);
        faultyLaws("g1x", 2);
        faultyLaws("g1c", 3);
        faultyLaws("g1cx", 3);
    }

    private static void blanksDoNotCount() {
        CHECK.part("blanks do not count, but end a number");
        goodLaws("  g  1  f  2  ", 2);
        goodLaws("g1 ", 1);
        faultyLaws("g1 2", 3);
        faultyLaws("g 1  2", 5);
        faultyLaws("r9 9", 3);
        faultyLaws("  g", 3);
        faultyLaws("  g ", 4);
        faultyLaws(" g 10", 3);
        faultyLaws(" x", 1);
        goodPeople("  0  n  w  1  t  2  ;  3  s  s  4  ", 2);
        faultyPeople("1 2nw1", 2);
        faultyPeople("0nw1 2", 5);
        faultyPeople("  500nw1", 2);
        faultyPeople("0 n w  21", 7);
        faultyPeople("0 n w 1 t  7", 11);
        faultyPeople("    ", 4);
    }

    private static void numbersDoNotWrapAround() {
        CHECK.part("of a number that may not be its first byte");
        faultyLaws("g4294967297", 1);
        faultyLaws("g18446744073709551617", 1);
        faultyLaws("g" + "9".repeat(79), 1);
        goodLaws("g" + "0".repeat(78) + "9", 1);
        faultyLaws("g" + "0".repeat(77) + "10", 1);
        faultyPeople("4294967296nw1", 0);
        faultyPeople("0nw4294967297", 3);
        goodPeople("00000499nw00000020", 1);
        faultyPeople("00000500nw00000020", 0);
        faultyPeople("00000499nw00000021", 10);
        faultyPeople("00000499nw00000000", 10);
    }

    private static void tapesOf80() {
        CHECK.part("the end: how many bytes there are, of 80");
        faultyLaws("g1" + " ".repeat(77) + "c", 80);
        faultyLaws("g1" + " ".repeat(77) + "x", 79);
        goodLaws("g1" + " ".repeat(76) + "c2", 2);
        faultyPeople(" ".repeat(80), 80);
        goodPeople(" ".repeat(76) + "0nw1", 1);
        faultyPeople(" ".repeat(77) + "0nw", 80);
    }

    private static void roomForAll() {
        CHECK.part("promise 11: FULL: not all have room (none comes)");
        String six = "0nw1;0nw1;0nw1;0nw1;0nw1;0nw1";
        PlankBridge x = Bridges.with("0nw1;0nw1;0nw1;0nw1");
        due("six behind four", Bridges.people(x, six), 6);
        due("ten", x.count(0), 10);
        due("one behind ten", Bridges.people(x, "0nw1"), FULL);
        due("a fault behind ten", Bridges.people(x, "0nw1;"), -25);
        x = Bridges.with("0nw1;0nw1;0nw1;0nw1;0nw1");
        due("six behind five", Bridges.people(x, six), FULL);
        due("none comes", x.count(0), 5);
        due("the tape is empty", x.type('0', 1), 1);
        due("so this is at its end", x.people(), -21);
        due("five behind five", Bridges.people(x, "0nw1;0nw1;0nw1;0nw1;0nw1"), 5);
        due("ten", x.count(0), 10);
    }

    private static void peopleComeToo() {
        CHECK.part("promise 11: PEOPLE that come, too");
        PlankBridge x = Bridges.with("1nw1");
        x.hold(0, -1);
        x.stay(0, 9);
        due("two more", Bridges.people(x, "2sr2t2;3nl3t3"), 2);
        int[][] want = {{1, 0, 0, 1, 1, 9, -4}, {2, 1, 1, 4, 2, 0, -4}, {3, 0, 2, 1, 3, 0, -4}};
        for (int person = 0; person < 3; person++) {
            for (int what = 0; what < 7; what++) {
                due("told(" + person + ", " + what + ")", x.told(person, what), want[person][what]);
            }
        }
    }

    private static void tapesGoOn() {
        CHECK.part("THE TAPE, which is empty then");
        PlankBridge x = new PlankBridge();
        x.type('g', 1);
        x.type('7', 1);
        due("typed one by one", x.laws(), 1);
        due("empty: laws", x.laws(), -20);
        due("empty: people", x.people(), -20);
        due("people of a law's text", Bridges.people(x, "g1"), -20);
        due("empty: laws", x.laws(), -20);
        due("laws of people's text", Bridges.laws(x, "0nw1"), -20);
        due("empty: people", x.people(), -20);
        due("people", Bridges.people(x, "0nw1"), 1);
        due("empty: people", x.people(), -20);
        due("grows", x.rule(0, 1), 7);
    }

    public static void main(String[] args) {
        lawNumbersHaveEnds();
        oneLawAtLeast();
        lawsAreInOrder();
        lawLettersAreThese();
        lawsAreAllOrNone();
        oneToSixPeople();
        personNumbersHaveEnds();
        banksAndKindsAreLetters();
        tripsAreOneDigit();
        placesBySign();
        blanksDoNotCount();
        numbersDoNotWrapAround();
        tapesOf80();
        roomForAll();
        peopleComeToo();
        tapesGoOn();
        CHECK.end();
    }
}
