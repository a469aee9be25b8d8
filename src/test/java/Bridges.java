/** Makes bridges for the tests, by texts. */
final class Bridges {
    private Bridges() {
    }

    /** Up to eight signs as type() takes them, the first one highest. */
    static long word(String signs) {
        long w = 0;
        for (int i = 0; i < signs.length(); i++) {
            w = w << 8 | signs.charAt(i);
        }
        return w;
    }

    /** Types a text, eight bytes a call, behind an empty tape. */
    static void type(PlankBridge x, String text) {
        for (int from = 0; from < text.length(); from += 8) {
            String part = text.substring(from, Math.min(text.length(), from + 8));
            int has = x.type(word(part), part.length());
            if (has != from + part.length()) {
                throw new IllegalStateException("type " + part + " answered " + has);
            }
        }
    }

    static int laws(PlankBridge x, String text) {
        type(x, text);
        return x.laws();
    }

    static int people(PlankBridge x, String text) {
        type(x, text);
        return x.people();
    }

    /** A bridge with people, told by a text or more. */
    static PlankBridge with(String... texts) {
        PlankBridge x = new PlankBridge();
        for (String text : texts) {
            send(x, text);
        }
        return x;
    }

    /** A bridge of so many planks at minute 0, with laws and people. */
    static PlankBridge of(int planks, String laws, String... texts) {
        PlankBridge x = with(texts);
        if (x.planks(planks) < 0 || laws(x, laws) < 0) {
            throw new IllegalStateException("no bridge of " + planks + " planks by " + laws);
        }
        return x;
    }

    private static void send(PlankBridge x, String text) {
        if (people(x, text) < 0) {
            throw new IllegalStateException("no people by " + text);
        }
    }
}
