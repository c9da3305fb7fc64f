/** Counts the answers that are not as due; a test's main makes one and ends with close(). */
final class Check {
    private final String name;
    private String sentence = "";
    private int asked;
    private int wrong;

    Check(String name) {
        this.name = name;
    }

    /** The document's sentence that the answers from here on stand for; it is told with a wrong one. */
    void says(String words) {
        sentence = " (\"" + words + "\")";
    }

    void due(String call, long got, long want) {
        asked++;
        if (got != want) {
            wrong++;
            System.out.println(name + ": " + call + " answered " + got + ", due is " + want + sentence);
        }
    }

    void is(String what, boolean so) {
        due(what, so ? 1 : 0, 1);
    }

    /** Prints what came out; a wrong answer ends the machine with 1. */
    void close() {
        System.out.println(name + ": " + asked + " answers, " + wrong + " not as due");
        if (wrong != 0 || asked == 0) {
            System.exit(1);
        }
    }

    /** Types a text as often as it takes; what the last type() answered, 0 for an empty text. */
    static int write(SpadeRings x, String text) {
        int length = 0;
        for (int from = 0; from < text.length(); from += 8) {
            int n = Math.min(8, text.length() - from);
            length = x.type(packed(text.substring(from, from + n)), n);
        }
        return length;
    }

    /** The signs of a short text as the bytes of a number, the first one highest. */
    static long packed(String text) {
        long v = 0;
        for (int i = 0; i < text.length(); i++) {
            v = v << 8 | text.charAt(i) & 255;
        }
        return v;
    }

    /** A new object with a gang. */
    static SpadeRings gang(String text) {
        SpadeRings x = new SpadeRings();
        write(x, text);
        if (x.gang() < 0) {
            throw new IllegalArgumentException(text);
        }
        return x;
    }

    /** Six diggers, eight spades for any hand, eight yards: as many as may be, all of the least numbers. */
    static String fullGang() {
        return "digger1 1;".repeat(6) + "spade1;".repeat(8) + "yard1 1;".repeat(8);
    }
}
