import java.util.function.IntUnaryOperator;

/** Counts answers that are not the ones that are due, and tells them. */
final class Check {
    private int wrong;
    private int asked;
    private String part = "";

    void part(String name) {
        part = name;
    }

    void due(String call, long got, long want) {
        asked++;
        if (got != want) {
            wrong++;
            if (wrong <= 50) {
                System.out.println(part + ": " + call + " answered " + got + ", due is " + want);
            }
        }
    }

    void holds(String what, boolean so) {
        due(what, so ? 1 : 0, 1);
    }

    /** A number of least .. most is taken; what is beyond either end, by one or by all there is, is refused. */
    void edges(String call, int least, int most, int refused, IntUnaryOperator answer) {
        for (int v : new int[] {Integer.MIN_VALUE, least - 1, most + 1, Integer.MAX_VALUE}) {
            due(call + " with " + v, answer.applyAsInt(v), refused);
        }
        for (int v : new int[] {least, most}) {
            holds(call + " takes " + v, answer.applyAsInt(v) != refused);
        }
    }

    int wrong() {
        return wrong;
    }

    void end() {
        System.out.println(asked + " answers, " + wrong + " not as due");
        if (wrong != 0) {
            System.exit(1);
        }
    }
}
