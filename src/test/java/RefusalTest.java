import java.util.ArrayList;
import java.util.List;
import java.util.function.ToIntFunction;

/**
 * 'What is refused changes nothing, but as told': each refused call is made on an object of its own, of which all that
 * can be asked is then held against a like object that was not called. What is told besides: a text is gone from the tape
 * also if it has a fault, or if not all have room.
 */
public final class RefusalTest {
    private static final Check CHECK = new Check();
    private static final int MIN = Integer.MIN_VALUE, MAX = Integer.MAX_VALUE;

    /** Eight people who wait and stay, an image of five, something on the tape, three sheets of which one is missing. */
    private static PlankBridge busy() {
        PlankBridge x = Bridges.of(33, "g4c2w7n3r5f9", "1nw3t2;2sr4;3nl9;4ss2t3;5nw6");
        x.hold(1, 0);
        x.stay(3, 4);
        x.image();
        x.planks(44);
        x.rule(0, 3);
        x.rule(5, 20);
        Bridges.people(x, "0nw2;0sw5t3;2nw1");
        x.hold(0, 6);
        x.hold(7, 5);
        x.stay(6, 2);
        for (int sheet = 0; sheet < 3; sheet++) {
            x.sheet(sheet, sheet, 11);
            for (int i = 0; i < 11; i++) {
                x.item(sheet, sheet, i, 1);
            }
        }
        // Row 6 .. 10 of each sheet is not as told.
        x.item(0, 0, 10, 7);
        x.item(1, 1, 10, 7);
        x.item(2, 2, 10, 7);
        Bridges.type(x, "g5");
        return x;
    }

    /** All that can be asked; the object is of no use then. */
    private static List<Integer> told(PlankBridge x) {
        List<Integer> all = new ArrayList<>();
        tellState(x, all);
        all.add(x.type(' ', 1));
        all.add(x.laws());
        all.add(x.rule(0, 1));
        for (int sheet = 0; sheet < 4; sheet++) {
            tellSheet(x, sheet, all);
        }
        all.add(x.restore());
        tellState(x, all);
        return all;
    }

    private static void tellState(PlankBridge x, List<Integer> all) {
        for (int person = 0; person < 10; person++) {
            for (int what = 0; what < 7; what++) {
                all.add(x.told(person, what));
            }
        }
        for (int what = 0; what < 5; what++) {
            all.add(x.all(what));
        }
        int[] asAtFirst = {1, 0, 5, 0, 99, 0};
        for (int what = 0; what < 6; what++) {
            int was = x.rule(what, asAtFirst[what]);
            all.add(was);
            x.rule(what, was);
        }
        all.add(x.at(0, 0));
        all.add(x.count(0));
    }

    private static void tellSheet(PlankBridge x, int sheet, List<Integer> all) {
        for (int lane = 0; lane < 3; lane++) {
            for (int from = 0; from < 7; from += 3) {
                x.clear();
                all.add(x.crowd(sheet, lane, from, 1));
                for (int what = 0; what < 5; what++) {
                    all.add(x.told(0, what));
                }
            }
        }
        all.add(x.drop(sheet));
    }

    private static void refused(String call, int want, ToIntFunction<PlankBridge> made) {
        PlankBridge x = busy();
        CHECK.due(call, made.applyAsInt(x), want);
        CHECK.holds(call + " changes nothing", told(x).equals(told(busy())));
    }

    private static void full(String call, ToIntFunction<PlankBridge> made) {
        PlankBridge x = busy();
        PlankBridge like = busy();
        x.person(9, 1, 3, 7, 2);
        like.person(9, 1, 3, 7, 2);
        x.person(9, 0, 2, 7, 2);
        like.person(9, 0, 2, 7, 2);
        CHECK.due(call, made.applyAsInt(x), -3);
        CHECK.holds(call + " changes nothing", told(x).equals(told(like)));
    }

    private static void bridge() {
        CHECK.part("the bridge, people");
        for (int v : new int[] {0, 401, MIN, MAX}) {
            refused("planks " + v, -1, x -> x.planks(v));
        }
        int[] most = {9, 2, 60, 50, 99, 200};
        for (int i = 0; i < 6; i++) {
            int what = i;
            refused("rule, above " + what, -1, x -> x.rule(what, most[what] + 1));
            refused("rule, below " + what, -1, x -> x.rule(what, -1));
        }
        refused("rule -1", -1, x -> x.rule(-1, 1));
        refused("rule 6", -1, x -> x.rule(6, 1));
        refused("minute", -1, x -> x.person(500, 0, 0, 1, 1));
        refused("bank", -1, x -> x.person(0, 2, 0, 1, 1));
        refused("kind", -1, x -> x.person(0, 0, 4, 1, 1));
        refused("pace", -1, x -> x.person(0, 0, 0, 21, 1));
        refused("trips", -1, x -> x.person(0, 0, 0, 1, 7));
        full("person", x -> x.person(0, 0, 0, 1, 1));
        refused("told of 8", -1, x -> x.told(8, 0));
        refused("stay of 8", -1, x -> x.stay(8, 1));
        refused("stay 61", -1, x -> x.stay(0, 61));
        refused("stay -1", -1, x -> x.stay(3, -1));
        refused("hold of 8", -1, x -> x.hold(8, 1));
        refused("hold 8", -1, x -> x.hold(0, 8));
        refused("hold -2", -1, x -> x.hold(0, -2));
        refused("hold itself", -1, x -> x.hold(0, 0));
        refused("type 0", -1, x -> x.type(Bridges.word("        "), 0));
        refused("type 9", -1, x -> x.type(Bridges.word("        "), 9));
        refused("type a wrong byte, the first", -1, x -> x.type(0x1F20L, 2));
        refused("type a wrong byte, the last", -1, x -> x.type(0x207FL, 2));
        refused("count 3", -1, x -> x.count(3));
    }

    private static void tape() {
        CHECK.part("the tape");
        PlankBridge x = busy();
        PlankBridge like = busy();
        for (int i = 0; i < 9; i++) {
            x.type(Bridges.word("        "), 8);
            like.type(Bridges.word("        "), 8);
        }
        CHECK.due("type, seven too many", x.type(Bridges.word("c1c1c1c1"), 7), -3);
        CHECK.holds("FULL changes nothing", told(x).equals(told(like)));
        // A fault and FULL empty the tape, as told, and that is all.
        PlankBridge empty = busy();
        empty.laws();
        empty.rule(0, 3);
        List<Integer> want = told(empty);
        emptied("laws with a fault", -22, y -> typed(y, ";").laws(), want);
        emptied("laws, the last a fault", -27, y -> typed(y, "c1r9f;").laws(), want);
        emptied("people with a fault", -20, PlankBridge::people, want);
        PlankBridge y = busy();
        y.laws();
        y.rule(0, 3);
        CHECK.due("people, the second a fault", Bridges.people(y, "0nw1;0nw"), -28);
        CHECK.holds("changes nothing else", told(y).equals(want));
        y = busy();
        y.laws();
        y.rule(0, 3);
        CHECK.due("people, three for two", Bridges.people(y, "0nw1;0nw1;0nw1"), -3);
        CHECK.holds("changes nothing else", told(y).equals(want));
    }

    private static PlankBridge typed(PlankBridge x, String text) {
        x.type(Bridges.word(text), text.length());
        return x;
    }

    private static void emptied(String call, int answer, ToIntFunction<PlankBridge> made, List<Integer> want) {
        PlankBridge x = busy();
        CHECK.due(call, made.applyAsInt(x), answer);
        CHECK.holds(call + " changes nothing else", told(x).equals(want));
    }

    private static void wouldBe() {
        CHECK.part("days, what would be");
        refused("fate", -1, x -> x.fate(8, 0));
        refused("at", -1, x -> x.at(1000, 0));
        refused("gone, BAD", -1, x -> x.gone(8, 0));
        refused("gone, NONE", -4, x -> x.gone(0, 0));
        refused("all", -1, x -> x.all(5));
        refused("soonest", -1, x -> x.soonest(0, 0));
        refused("soonest of seven", -1, x -> x.soonest(127, 0));
        refused("order", -1, x -> x.order(3, 61, 0));
        refused("worth", -100001, x -> x.worth(0, 0));
        refused("waits", -1, x -> x.waits(2));
        refused("handed", -1, x -> x.handed(0, 0));
        refused("ford", -1, x -> x.ford(8));
        refused("shared", -1, x -> x.shared(11, 0));
        refused("late, BAD", -1, x -> x.late(41, 1, 1, 0));
        refused("late, NONE", -4, x -> x.late(1, 400, 1, 0));
        refused("other", -1, x -> x.other(3, 0));
    }

    /** Calls that ask what would be, and so leave all as it is. */
    private static void asked() {
        CHECK.part("what is only asked");
        List<Integer> want = told(busy());
        List<ToIntFunction<PlankBridge>> calls = List.of(x -> x.fate(0, 0), x -> x.at(999, 0), x -> x.gone(0, 2),
            x -> x.all(1), x -> x.soonest(63, -1), x -> x.soonest(63, 3), x -> x.order(63, 2, -1), x -> x.worth(0, 4),
            x -> x.waits(0), x -> x.waits(1), x -> x.handed(0, 1), x -> x.ford(0), x -> x.shared(2, 0), x -> x.late(8, 20, 4, 0),
            x -> x.other(0, 0), x -> x.other(1, 1), x -> x.told(0, 0), x -> x.count(1));
        for (int i = 0; i < calls.size(); i++) {
            PlankBridge x = busy();
            int first = calls.get(i).applyAsInt(x);
            CHECK.due("question " + i + " once more", calls.get(i).applyAsInt(x), first);
            CHECK.holds("question " + i + " changes nothing", told(x).equals(want));
        }
    }

    private static void sheets() {
        CHECK.part("sheets");
        refused("sheet 4", -1, x -> x.sheet(4, 0, 1));
        refused("lane 3", -1, x -> x.sheet(0, 3, 1));
        refused("25 items", -1, x -> x.sheet(0, 0, 25));
        refused("-1 items", -14, x -> x.sheet(0, 1, -1));
        refused("-1 items, missing", -14, x -> x.sheet(3, 1, -1));
        refused("drop 4", -1, x -> x.drop(4));
        refused("drop a missing one", -11, x -> x.drop(3));
        refused("item, BAD", -1, x -> x.item(0, 3, 0, 2));
        refused("item, NULL", -11, x -> x.item(3, 0, 0, 2));
        refused("item, CAST", -12, x -> x.item(0, 1, 0, 2));
        refused("item, INDEX", -13, x -> x.item(0, 0, 11, 2));
        refused("item, INDEX below", -13, x -> x.item(0, 0, -1, 2));
        refused("crowd, BAD", -1, x -> x.crowd(0, 0, 0, 5));
        refused("crowd, NULL", -11, x -> x.crowd(3, 0, 0, 1));
        refused("crowd, CAST", -12, x -> x.crowd(0, 1, 0, 1));
        refused("crowd, INDEX", -13, x -> x.crowd(0, 0, 2, 2));
        refused("crowd, NOT, the first", -2, x -> x.crowd(0, 0, 6, 1));
        refused("crowd, NOT, the second", -2, x -> x.crowd(1, 1, 1, 2));
        full("crowd", x -> x.crowd(0, 0, 0, 1));
        refused("film, BAD", -1, x -> x.film(4, 0, 0));
        refused("film, NULL", -11, x -> x.film(3, 0, 0));
        refused("film, CAST", -12, x -> x.film(0, 1, 0));
        refused("film, INDEX: the last has no item", -13, x -> x.film(0, 0, 4));
        refused("film, INDEX below", -13, x -> x.film(1, 1, -1));
    }

    private static void images() {
        CHECK.part("images");
        PlankBridge x = Bridges.of(33, "g4", "1nw3t2;2sr4");
        List<Integer> want = told(Bridges.of(33, "g4", "1nw3t2;2sr4"));
        CHECK.due("restore", x.restore(), -4);
        CHECK.holds("NONE changes nothing", told(x).equals(want));
    }

    /** That this test sees what a call changes. */
    private static void seen() {
        CHECK.part("what is not refused is seen");
        List<Integer> was = told(busy());
        List<ToIntFunction<PlankBridge>> calls = List.of(x -> x.planks(45), x -> x.rule(0, 2), x -> x.rule(1, 1),
            x -> x.rule(2, 8), x -> x.rule(3, 4), x -> x.rule(4, 6), x -> x.rule(5, 21), x -> x.person(0, 0, 0, 1, 1),
            x -> x.stay(0, 1), x -> x.hold(0, 7), x -> x.clear(), x -> x.type(' ', 1), x -> x.laws(), x -> x.people(),
            x -> x.image(), x -> x.restore(), x -> x.sheet(3, 0, 0), x -> x.sheet(0, 0, 12), x -> x.sheet(0, 1, 11),
            x -> x.drop(2), x -> x.item(0, 0, 0, 2), x -> x.item(2, 2, 4, 2), x -> x.crowd(0, 0, 0, 1), x -> x.film(1, 1, 0));
        for (int i = 0; i < calls.size(); i++) {
            PlankBridge x = busy();
            calls.get(i).applyAsInt(x);
            CHECK.holds("call " + i, !told(x).equals(was));
        }
    }

    public static void main(String[] args) {
        bridge();
        tape();
        wouldBe();
        asked();
        sheets();
        images();
        seen();
        CHECK.end();
    }
}
