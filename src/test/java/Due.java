/** What the written-out tests share: it prints each answer that is not the one due. */
final class Due {
    static final int LOW = -1000000000;
    static final int BEYOND = -1000000001;
    static final int NONE = -1000000002;
    static final int STATE = -1000000003;
    static final int FULL = -1000000004;
    static final int KIND = -1000000005;

    private static int asked;
    private static int wrong;
    private static String part = "";

    private Due() {
    }

    static void part(String name) {
        part = name;
    }

    static void due(String what, long got, long want) {
        asked++;
        if (got != want) {
            wrong++;
            System.out.println(part + ": " + what + " answered " + got + ", due is " + want);
        }
    }

    static void due(String what, boolean got) {
        due(what, got ? 1 : 0, 1);
    }

    /** Feeds a text to THE TAPE, as many bytes at once as there may be. */
    static void feed(OneWindow x, String text) {
        for (int from = 0; from < text.length(); from += 8) {
            int n = Math.min(8, text.length() - from);
            long word = 0;
            for (int i = 0; i < n; i++) {
                word |= (long) text.charAt(from + i) << 8 * i;
            }
            x.feed(word, n);
        }
    }

    static int write(OneWindow x, int use, String text) {
        feed(x, text);
        return x.text(use);
    }

    static void finish(String name) {
        System.out.println(name + ": " + (asked - wrong) + " answers as due, " + wrong + " not");
        System.exit(wrong == 0 ? 0 : 1);
    }
}
