/**
 * Each sentence of the document's 'the minutes', and of promises 13 to 16, that names a boundary: a test of its own, on
 * both sides of it. Where no other laws are told, nothing grows (g0), so that the way is as long for all.
 */
public final class EdgesOfDaysTest {
    private static final Check CHECK = new Check();
    private static final int BAD = -1, NONE = -4;

    private static void due(String call, long got, long want) {
        CHECK.due(call, got, want);
    }

    private static int over(PlankBridge x, int person) {
        return x.fate(person, 0);
    }

    // ---- 1 nights

    private static void nightsAreAtFourMinutes() {
        CHECK.part("On each NIGHT (MINUTES 240, 480, 720, 960) PLANKS are NIGHT less");
        PlankBridge x = Bridges.of(100, "n7");
        int[][] want = {{0, 100}, {1, 100}, {239, 100}, {240, 93}, {241, 93}, {479, 93}, {480, 86}, {719, 86},
            {720, 79}, {959, 79}, {960, 72}, {999, 72}};
        for (int[] row : want) {
            due("at(" + row[0] + ", 0)", x.at(row[0], 0), row[1]);
        }
        x.rule(3, 0);
        due("no night", x.all(0), 100);
    }

    private static void nightsLeaveOnePlank() {
        CHECK.part("PLANKS are NIGHT less, 1 at least");
        int[][] want = {{400, 350}, {52, 2}, {51, 1}, {50, 1}, {49, 1}, {1, 1}};
        for (int[] row : want) {
            due("of " + row[0], Bridges.of(row[0], "n50").at(240, 0), row[1]);
        }
        due("in the last night", Bridges.of(201, "n50").at(999, 0), 1);
        due("ahead of it", Bridges.of(202, "n50").at(999, 0), 2);
    }

    private static void nightsAreAheadOfGoing() {
        CHECK.part("1 On each NIGHT .., 2 .. if it has gone PLANKS or more (as they are now)");
        due("ten gone in minute 240, ten planks", over(Bridges.of(20, "g0n10", "230nw1"), 0), 240);
        due("ten gone in minute 240, eleven planks", over(Bridges.of(20, "g0n9", "230nw1"), 0), 241);
        due("nine gone in minute 239, twenty planks", over(Bridges.of(20, "g0n20", "230nw1"), 0), 240);
        // 240 is ahead of starting, too: ten planks are not more than the ford takes, twenty are.
        due("starts in 239", Bridges.of(20, "g0n10f10", "239nw1").fate(0, 2), 1);
        due("starts in 240", Bridges.of(20, "g0n10f10", "240nw1").fate(0, 2), 0);
    }

    private static void nightsAreAheadOfGrowing() {
        CHECK.part("1 .. 1 at least. 3 .. PLANKS are GROWS times what counts more");
        // Steps off in 240 over one plank, which grows to ten then.
        PlankBridge x = Bridges.of(10, "g9n50", "230nw1");
        due("over", over(x, 0), 240);
        due("behind it", x.at(240, 0), 10);
        due("the next night", x.at(480, 0), 1);
    }

    // ---- 2 going

    private static void endIsReachedByPlanksOrMore() {
        CHECK.part("if it has gone PLANKS or more, it is AT THE END");
        int[][] want = {{19, 4}, {20, 4}, {21, 5}, {25, 5}, {26, 6}, {1, 1}, {5, 1}, {6, 2}, {400, 80}};
        for (int[] row : want) {
            due("by 5 over " + row[0], over(Bridges.of(row[0], "g0", "0nw5"), 0), row[1]);
        }
    }

    private static void growthIsForTheMinuteBehind() {
        CHECK.part("PLANKS or more (as they are now)");
        // One steps off in minute 2. The other has gone 21 in minute 3.
        due("21 planks then", over(Bridges.of(20, "g1", "0nw10;0nw7"), 1), 3);
        due("22 planks then", over(Bridges.of(20, "g2", "0nw10;0nw7"), 1), 4);
        due("in the same minute it is too late", over(Bridges.of(20, "g9", "0nw10;0nw11"), 1), 2);
    }

    private static void atTheEndItStays() {
        CHECK.part("AT THE END (and stays so till it steps off)");
        // The first waits from 2 on; nine planks come in 4, by which the second one needs 15 minutes.
        PlankBridge x = Bridges.of(20, "g9", "0nw10;0nw2;0sw5");
        x.hold(0, 1);
        due("planks", x.at(4, 0), 29);
        due("at the end ahead of it", x.at(3, 3), 1);
        due("at the end behind it", x.at(4, 3), 1);
        due("gone as it was", x.gone(0, 5), 20);
        due("at the end in 14", x.at(14, 3), 1);
        due("both over", over(x, 0), 15);
        due("both over", over(x, 1), 15);
        due("nobody is at the end", x.at(15, 3), 0);
    }

    // ---- 3 stepping off

    private static void heldOnesMustBeOnTheBridge() {
        CHECK.part("as long as whom it HOLDS is on THE BRIDGE");
        // At the end in 2: who steps on in 1 is on the bridge then, who steps on in 2 is not yet.
        PlankBridge x = Bridges.of(20, "g0", "0nw10;1nw10");
        x.hold(0, 1);
        due("stepped on in 1", over(x, 0), 3);
        due("waited", x.fate(0, 3), 1);
        x = Bridges.of(20, "g0", "0nw10;2nw10");
        x.hold(0, 1);
        due("steps on in 2", over(x, 0), 2);
        due("waited", x.fate(0, 3), 0);
        x = Bridges.of(20, "g0f5", "0nw10;0nw1");
        x.hold(0, 1);
        due("is in the ford", over(x, 0), 2);
        x = Bridges.of(20, "g0", "1nw10;0nw20");
        x.hold(0, 1);
        due("is over already", over(x, 0), 3);
    }

    private static void heldOnesMustGoTheSameWay() {
        CHECK.part("on THE BRIDGE the same way");
        PlankBridge x = Bridges.of(20, "g0", "0nw10;0nw4");
        x.hold(0, 1);
        due("the same", over(x, 0), 5);
        x = Bridges.of(20, "g0", "0nw10;0sw4");
        x.hold(0, 1);
        due("the other", over(x, 0), 2);
        // The other one goes back the same way, from 2 to 4.
        x = Bridges.of(20, "g0", "1nw10;0sw10t2");
        x.hold(0, 1);
        due("its second trip is the same", over(x, 0), 4);
        x = Bridges.of(20, "g0", "1nw10;0nw10t2");
        x.hold(0, 1);
        due("its second trip is the other", over(x, 0), 3);
    }

    private static void heldOnesMustNotBeAtTheEnd() {
        CHECK.part("and not AT THE END");
        PlankBridge x = Bridges.of(20, "g0", "0nw10;0nw10");
        x.hold(0, 1);
        due("comes there in the same minute", over(x, 0), 2);
        due("waited", x.fate(0, 3), 0);
        x = Bridges.of(20, "g0", "0nw10;0nw9");
        x.hold(0, 1);
        due("comes there a minute later", over(x, 0), 3);
        due("waited", x.fate(0, 3), 1);
        // Each holds the next: the second is at the end in 4, where it waits for the third.
        x = Bridges.of(20, "g0", "0nw10;0nw5;0nw2");
        x.hold(0, 1);
        x.hold(1, 2);
        due("the first", over(x, 0), 4);
        due("the second", over(x, 1), 10);
        due("it waited", x.fate(1, 3), 6);
        due("behind 4", x.at(4, 3), 2);
    }

    private static void whoHoldEachOtherGoOn() {
        CHECK.part("as long as: none waits for ever");
        PlankBridge x = Bridges.of(20, "g0", "0nw10;0nw5");
        x.hold(0, 1);
        x.hold(1, 0);
        due("the first", over(x, 0), 4);
        due("the second", over(x, 1), 4);
        x = Bridges.of(20, "g0", "0nw10;0nw5;0nw2");
        x.hold(0, 1);
        x.hold(1, 2);
        x.hold(2, 0);
        due("a ring: the first", over(x, 0), 4);
        due("a ring: the second", over(x, 1), 10);
        due("a ring: the third", over(x, 2), 10);
    }

    private static int counted(String laws, String people) {
        return Bridges.of(20, laws, people).all(3);
    }

    private static void countOfOneMinuteAtOneBank() {
        CHECK.part("Who steps off in this MINUTE at one BANK: by COUNT 0 as one, by 1 each");
        due("as one", counted("g0c0", "0nw10;0nw10;0nw10"), 1);
        due("each", counted("g0c1", "0nw10;0nw10;0nw10"), 3);
        due("by span, as one", counted("g0c2", "0nw10;0nw10;0nw10"), 1);
        due("as one, another minute", counted("g0c0", "0nw10;0nw10;1nw10"), 2);
        due("each, another minute", counted("g0c1", "0nw10;0nw10;1nw10"), 3);
        due("as one, another bank", counted("g0c0", "0nw10;0nw10;0sw10"), 2);
        due("each, another bank", counted("g0c1", "0nw10;0nw10;0sw10"), 3);
        due("by span, another bank", counted("g0c2", "0nw10;0nw10;0sw10"), 2);
        due("nobody", new PlankBridge().all(3), 0);
    }

    private static void spansHaveEnds() {
        CHECK.part("by 2 as one if nobody has counted at this BANK in the SPAN MINUTES ahead of this one");
        // They step off two minutes behind the one when they come.
        due("span 5: five ahead", counted("g0c2w5", "0nw10;5nw10"), 1);
        due("span 5: six ahead", counted("g0c2w5", "0nw10;6nw10"), 2);
        due("span 1: one ahead", counted("g0c2w1", "0nw10;1nw10"), 1);
        due("span 1: two ahead", counted("g0c2w1", "0nw10;2nw10"), 2);
        due("span 60: 60 ahead", counted("g0c2w60", "0nw10;60nw10"), 1);
        due("span 60: 61 ahead", counted("g0c2w60", "0nw10;61nw10"), 2);
        due("who did not count does not matter", counted("g0c2w5", "0nw10;5nw10;6nw10"), 2);
        due("the next span is from who counted", counted("g0c2w5", "0nw10;6nw10;11nw10"), 2);
        due("behind it", counted("g0c2w5", "0nw10;6nw10;12nw10"), 3);
        due("the other bank", counted("g0c2w60", "0nw10;1sw10"), 2);
        due("both banks", counted("g0c2w60", "0nw10;1sw10;2nw10;3sw10"), 2);
        due("nobody was there ahead of minute 1", Bridges.of(1, "g0c2w60", "0nw1").all(3), 1);
    }

    private static void spitingOnesCountAlways() {
        CHECK.part("a SPITING one besides counts by itself always (and is none of the others)");
        due("two, as one", counted("g0c0", "0ns5;0ns5"), 2);
        due("two and two, as one", counted("g0c0", "0ns5;0nw10;0ns5;0nw10"), 3);
        due("two and two, each", counted("g0c1", "0ns5;0nw10;0ns5;0nw10"), 4);
        due("two and two, by span", counted("g0c2", "0ns5;0nw10;0ns5;0nw10"), 3);
        due("within a span", counted("g0c2w5", "0nw10;1ns5;2ns5"), 3);
        due("a running one within a span", counted("g0c2w5", "0nw10;1nr5;2nr5"), 1);
        due("the others do not mind it", counted("g0c2w5", "0ns5;1nw10"), 2);
        due("nor in its minute", counted("g0c2w5", "0ns5;0nw10;1nw10"), 2);
    }

    private static void growthEndsAt400() {
        CHECK.part("PLANKS are GROWS times what counts more, 400 at most");
        int[][] want = {{390, 399}, {391, 400}, {392, 400}, {399, 400}, {400, 400}};
        for (int[] row : want) {
            due("9 more than " + row[0], Bridges.of(row[0], "g9", "0nw20").all(0), row[1]);
        }
        due("1 more than 399", Bridges.of(399, "g1", "0nw20").all(0), 400);
        due("1 more than 400", Bridges.of(400, "g1", "0nw20").all(0), 400);
        due("0 more than 399", Bridges.of(399, "g0", "0nw20").all(0), 399);
        due("both banks, 3 each", Bridges.of(393, "g3", "0nw20;0sw20").all(0), 399);
        due("both banks, 4 each", Bridges.of(393, "g4", "0nw20;0sw20").all(0), 400);
        due("it counts all the same", Bridges.of(400, "g9", "0nw20").all(3), 1);
        due("a night is from 400", Bridges.of(399, "g9n50", "0nw20").at(240, 0), 350);
    }

    // ---- 4 starting

    private static int byFord(int planks, String laws, String people) {
        return Bridges.of(planks, laws, people).fate(0, 2);
    }

    private static void fordIsTakenIfItIsLess() {
        CHECK.part("by the ford, if PLANKS by its PACE, cut up, are more than FORD");
        due("as many as the ford", byFord(20, "g0f4", "0nw5"), 0);
        due("a plank more", byFord(21, "g0f4", "0nw5"), 1);
        due("as many, cut up", byFord(21, "g0f5", "0nw5"), 0);
        due("1 by 1", byFord(1, "g0f1", "0nw1"), 0);
        due("2 by 1", byFord(2, "g0f1", "0nw1"), 1);
        due("200 by 1", byFord(200, "g0f200", "0nw1"), 0);
        due("201 by 1", byFord(201, "g0f200", "0nw1"), 1);
        due("400 by 40", byFord(400, "g0f10", "0nr20"), 0);
        due("400 by 40, the ford a minute less", byFord(400, "g0f9", "0nr20"), 1);
        due("loaded: 20 by 2", byFord(20, "g0f10", "0nl5"), 0);
        due("loaded: 21 by 2", byFord(21, "g0f10", "0nl5"), 1);
    }

    private static void fordZeroIsNone() {
        CHECK.part("FORD (0 none), by the ford (FORD not 0)");
        PlankBridge x = Bridges.of(400, "g0f0", "0nw1");
        due("on the bridge", x.at(0, 1), 1);
        due("over", over(x, 0), 400);
        x.rule(5, 1);
        due("in the ford", x.at(0, 1), 0);
        due("there", over(x, 0), 1);
    }

    private static void fordIsMeasuredByPlanksAsTheyAre() {
        CHECK.part("PLANKS (as they are)");
        // 29 planks behind 2, in which the first one steps off; the ford takes 2, the other one's pace is 10.
        due("starts ahead", Bridges.of(20, "g9f2", "0nw10;1nw10").fate(1, 2), 0);
        due("starts in the same minute", Bridges.of(20, "g9f2", "0nw10;2nw10").fate(1, 2), 1);
        due("its own step off counts", Bridges.of(20, "g9f2", "0nw10t2").fate(0, 2), 1);
        due("without a rope its pace is whole yet", byFord(20, "g0r0f2", "0nw10"), 0);
        due("then half", over(Bridges.of(20, "g0r0f2", "0nw10"), 0), 4);
    }

    private static void fordTakesItsTime() {
        CHECK.part("it is there FORD MINUTES later");
        PlankBridge x = Bridges.of(20, "g9r1f3", "7nw1");
        due("not ahead", x.at(9, 5), 0);
        due("there", x.at(10, 5), 1);
        due("over", over(x, 0), 10);
        due("nobody counts", x.all(3), 0);
        due("nothing grows", x.all(0), 20);
        due("no rope goes", x.at(999, 4), 1);
        due("nor has it none", x.fate(0, 4), 0);
        due("it is not on the bridge", x.gone(0, 8), NONE);
        x = Bridges.of(20, "g0f3", "0nw1t6");
        due("six times", over(x, 0), 18);
        due("six fords", x.fate(0, 2), 6);
        x.stay(0, 1);
        due("a minute between", over(x, 0), 23);
        due("the most: 200", over(Bridges.of(400, "g0f200", "0nw1"), 0), 200);
    }

    private static void ropesLastSoMany() {
        CHECK.part("if there are ROPES left, it has one (one less are left); else its PACE is half");
        for (int ropes = 0; ropes <= 4; ropes++) {
            PlankBridge x = Bridges.of(20, "g0r" + ropes, "0nw4;0nw4;0nw4");
            for (int person = 0; person < 3; person++) {
                due(ropes + " ropes, person " + person, over(x, person), person < ropes ? 5 : 10);
                due("had none", x.fate(person, 4), person < ropes ? 0 : 1);
            }
            due("left", x.at(0, 4), Math.max(0, ropes - 3));
            due("left", x.at(999, 4), Math.max(0, ropes - 3));
        }
        PlankBridge x = Bridges.of(20, "g0r1", "1nw4;0nw4;1nw4");
        due("left ahead of 1", x.at(0, 4), 0);
        due("the one who came first has it", over(x, 1), 5);
        due("the others none", x.fate(0, 4) + x.fate(2, 4), 2);
        x = Bridges.of(20, "g0r3", "0nw4t6");
        due("one a trip", over(x, 0), 3 * 5 + 3 * 10);
        due("three without", x.fate(0, 4), 3);
        x.rule(4, 6);
        due("just enough", x.fate(0, 4), 0);
        due("none left", x.at(999, 4), 0);
        x.rule(4, 5);
        due("one too few", x.fate(0, 4), 1);
    }

    private static void halfIsOneAtLeast() {
        CHECK.part("else its PACE is half (cut, 1 at least) on this TRIP");
        int[][] want = {{1, 60}, {2, 60}, {3, 60}, {4, 30}, {5, 30}, {6, 20}, {20, 6}};
        for (int[] row : want) {
            due("pace " + row[0], over(Bridges.of(60, "g0r0", "0nw" + row[0]), 0), row[1]);
        }
        due("loaded 5, half of 2", over(Bridges.of(60, "g0r0", "0nl5"), 0), 60);
        due("running 1, half of 2", over(Bridges.of(60, "g0r0", "0nr1"), 0), 60);
        due("running 20, half of 40", over(Bridges.of(60, "g0r0", "0nr20"), 0), 3);
    }

    private static void ninetyNineRopesAreEnough() {
        CHECK.part("ROPES (0 .. 99; 99)");
        PlankBridge x = Bridges.of(20, "g0", "0nw20t6;0nw20t6;0nw20t6;0nw20t6;0nw20t6;0nw20t6", "0nw20t6;0nw20t6;0nw20t6;0nw20t6");
        due("60 trips", x.at(999, 4), 39);
        x.rule(4, 60);
        due("60 ropes", x.fate(9, 4), 0);
        x.rule(4, 59);
        due("59 ropes", x.fate(9, 4), 1);
        due("of others none lacks", x.fate(8, 4), 0);
    }

    private static void goingIsFromTheNextMinute() {
        CHECK.part("It goes on from the next MINUTE on");
        PlankBridge x = Bridges.of(20, "g0", "3nw7");
        int[] want = {NONE, NONE, NONE, 0, 7, 14, NONE};
        for (int m = 0; m < want.length; m++) {
            due("behind " + m, x.gone(0, m), want[m]);
        }
        due("the last who can come", Bridges.of(20, "g0", "499nw7").gone(0, 499), 0);
        due("ahead of it", Bridges.of(20, "g0", "499nw7").gone(0, 498), NONE);
    }

    private static void staysBetweenTrips() {
        CHECK.part("has STAYED so many MINUTES since it came over and has TRIPS left, starts");
        PlankBridge x = Bridges.of(20, "g0", "0nw10t2");
        due("stays 0: on it again in 2", x.gone(0, 2), 0);
        due("from the other bank", x.at(2, 2), 1);
        x.stay(0, 1);
        due("stays 1: not in 2", x.gone(0, 2), NONE);
        due("but in 3", x.gone(0, 3), 0);
        x.stay(0, 60);
        due("stays 60: not in 61", x.gone(0, 61), NONE);
        due("but in 62", x.gone(0, 62), 0);
        due("over", over(x, 0), 64);
        due("no third trip", x.gone(0, 124), NONE);
        due("two made", x.fate(0, 1), 2);
        due("one trip: it does not start again", Bridges.of(20, "g0", "0nw10").gone(0, 2), NONE);
        due("ahead of coming it does not stay", lateStart(), 2);
        for (int trips = 1; trips <= 6; trips++) {
            x = Bridges.of(20, "g0", "0nw10t" + trips);
            due(trips + " trips", over(x, 0), 2 * trips);
            due("made", x.fate(0, 1), trips);
        }
    }

    private static int lateStart() {
        PlankBridge x = Bridges.of(20, "g0", "0nw10");
        x.stay(0, 60);
        return over(x, 0);
    }

    // ---- the promises

    private static void minutesEndAt999() {
        CHECK.part("MINUTES 0 .. 999; NONE: not by 999; 1000 if not");
        PlankBridge x = Bridges.of(250, "g0", "499nw1t2");
        due("in 999", over(x, 0), 999);
        due("trips", x.fate(0, 1), 2);
        due("is over behind 999", x.at(999, 5), 1);
        due("not behind 998", x.at(998, 5), 0);
        due("the sum", x.all(1), 999);
        due("the last", x.all(2), 999);
        x.stay(0, 1);
        due("in 1000", over(x, 0), NONE);
        due("trips", x.fate(0, 1), 1);
        due("is on the bridge behind 999", x.at(999, 2), 1);
        due("gone", x.gone(0, 999), 249);
        due("is not over", x.at(999, 5), 0);
        due("the sum", x.all(1), 1000);
        due("the last", x.all(2), 1000);
    }

    private static void fordTripsCountByTheEnd() {
        CHECK.part("how many TRIPS it has made by 999, how many by the ford");
        PlankBridge x = Bridges.of(400, "g0f166", "499nw1t3");
        x.stay(0, 1);
        due("in 999", over(x, 0), 999);
        due("by the ford", x.fate(0, 2), 3);
        due("in all", x.all(4), 3);
        x.rule(5, 167);
        x.stay(0, 0);
        // The third trip is still under way: it is not one that it has made.
        due("in 1000", over(x, 0), NONE);
        due("made", x.fate(0, 1), 2);
        due("by the ford", x.fate(0, 2), 2);
        due("in all", x.all(4), 2);
        due("of several", Bridges.of(21, "g0f4", "0nw5t2;0nw20;0sw5t3").all(4), 5);
    }

    private static void waitingCountsToTheEnd() {
        CHECK.part("MINUTES AT THE END in which it waited");
        // Waits 519 .. 898 for the other one, and from 919 on once more on the way back.
        PlankBridge x = Bridges.of(400, "g0", "499nw20t2;499nw1t2");
        due("holds none", x.fate(0, 3), 0);
        x.hold(0, 1);
        due("waited", x.fate(0, 3), 380 + 81);
        due("the other one did not", x.fate(1, 3), 0);
        due("still there", x.at(999, 3), 1);
        due("behind 918", x.at(918, 3), 0);
        due("behind 919", x.at(919, 3), 1);
        due("not over", over(x, 0), NONE);
    }

    private static void ropelessTripsCountWhenBegun() {
        CHECK.part("in how many TRIPS it had no ROPE");
        PlankBridge x = Bridges.of(400, "g0r1", "499nw1t2");
        due("its second trip is not made", x.fate(0, 1), 1);
        due("but had none", x.fate(0, 4), 1);
        x.rule(4, 2);
        due("had one", x.fate(0, 4), 0);
    }

    private static PlankBridge three() {
        return Bridges.of(20, "g0", "0nw5;0nw5;0nw5");
    }

    private static void daysNameOneAndWhat() {
        CHECK.part("promises 13 to 16: BAD");
        CHECK.edges("fate of", 0, 2, BAD, v -> three().fate(v, 0));
        CHECK.edges("fate what", 0, 4, BAD, v -> three().fate(0, v));
        due("fate of nobody", new PlankBridge().fate(0, 0), BAD);
        CHECK.edges("at minute", 0, 999, BAD, v -> three().at(v, 0));
        CHECK.edges("at what", 0, 5, BAD, v -> three().at(0, v));
        CHECK.edges("gone of", 0, 2, BAD, v -> three().gone(v, 0));
        CHECK.edges("gone minute", 0, 999, BAD, v -> three().gone(0, v));
        due("gone of nobody", new PlankBridge().gone(0, 0), BAD);
        due("gone: BAD ahead of NONE", three().gone(0, 1000), BAD);
        CHECK.edges("all", 0, 4, BAD, v -> three().all(v));
    }

    private static void setsHaveTenBits() {
        CHECK.part("Sets are bits");
        PlankBridge x = Bridges.of(20, "g0", "0nw2;0sw2;0nw2;0sw2;0nw2;0sw2", "0nw2;0sw2;0nw2;0sw20");
        x.hold(9, 7);
        due("from bank 0", x.at(0, 1), 0b0101010101);
        due("from bank 1", x.at(0, 2), 0b1010101010);
        due("at the end, on the bridge still", x.at(5, 2), 0b1010101010);
        due("at the end", x.at(5, 3), 0b1000000000);
        due("over ahead of 10", x.at(9, 5), 0);
        due("all over", x.at(10, 5), 0b1111111111);
        due("nobody on the bridge", x.at(10, 1) + x.at(10, 2) + x.at(10, 3), 0);
        due("nobody at all", new PlankBridge().at(999, 5), 0);
    }

    private static void lastOfAll() {
        CHECK.part("promise 16: when the last is OVER (1000: not all; 0: nobody)");
        PlankBridge x = new PlankBridge();
        due("nobody", x.all(2), 0);
        due("their sum", x.all(1), 0);
        due("their fords", x.all(4), 0);
        x = Bridges.of(250, "g0", "0nw20;499nw1t2");
        due("all", x.all(2), 999);
        due("the sum", x.all(1), 13 + 999);
        x.stay(1, 1);
        due("not all", x.all(2), 1000);
        due("the sum", x.all(1), 13 + 1000);
    }

    private static void goneIsNotCut() {
        CHECK.part("promise 15: How far one has gone; NONE: it is not on it");
        PlankBridge x = Bridges.of(20, "g0", "0nw7;0nw1");
        x.hold(0, 1);
        due("at the end, beyond the last plank", x.gone(0, 3), 21);
        due("and there still", x.gone(0, 19), 21);
        due("stepped off", x.gone(0, 20), NONE);
        due("not come yet", Bridges.of(20, "g0", "1nw7").gone(0, 0), NONE);
        due("come", Bridges.of(20, "g0", "1nw7").gone(0, 1), 0);
    }

    public static void main(String[] args) {
        nightsAreAtFourMinutes();
        nightsLeaveOnePlank();
        nightsAreAheadOfGoing();
        nightsAreAheadOfGrowing();
        endIsReachedByPlanksOrMore();
        growthIsForTheMinuteBehind();
        atTheEndItStays();
        heldOnesMustBeOnTheBridge();
        heldOnesMustGoTheSameWay();
        heldOnesMustNotBeAtTheEnd();
        whoHoldEachOtherGoOn();
        countOfOneMinuteAtOneBank();
        spansHaveEnds();
        spitingOnesCountAlways();
        growthEndsAt400();
        fordIsTakenIfItIsLess();
        fordZeroIsNone();
        fordIsMeasuredByPlanksAsTheyAre();
        fordTakesItsTime();
        ropesLastSoMany();
        halfIsOneAtLeast();
        ninetyNineRopesAreEnough();
        goingIsFromTheNextMinute();
        staysBetweenTrips();
        minutesEndAt999();
        fordTripsCountByTheEnd();
        waitingCountsToTheEnd();
        ropelessTripsCountWhenBegun();
        daysNameOneAndWhat();
        setsHaveTenBits();
        lastOfAll();
        goneIsNotCut();
        CHECK.end();
    }
}
