/** Counts the answers that were asked for, and prints each that is not as due. */
final class Check {
    /** How a call that throws is written among answers; no call answers these numbers. */
    static final long ARGUMENT = 1L << 40;
    static final long STATE = 1L << 41;
    /** A class below the one that the document names is not that one. */
    private static final long ANOTHER = 1L << 42;

    private static int passed = 0;
    private static int failed = 0;
    private static String sentence = "";

    private Check() {
    }

    /** The document's words that the answers from here on are due by. */
    static void sentence(String words) {
        sentence = words + " | ";
    }

    static void due(String call, long got, long want) {
        if (got == want) {
            passed++;
        } else {
            failed++;
            tell(call, told(got), told(want));
        }
    }

    static void due(String call, String got, String want) {
        if (got.equals(want)) {
            passed++;
        } else {
            failed++;
            tell(call, got, want);
        }
    }

    private static void tell(String call, String got, String want) {
        System.out.println(sentence + call + " answered " + got + ", due is " + want);
    }

    private static String told(long answer) {
        if (answer == ARGUMENT) {
            return "throws.IllegalArgumentException";
        }
        if (answer == STATE) {
            return "throws.IllegalStateException";
        }
        return answer == ANOTHER ? "throws another class" : Long.toString(answer);
    }

    static long begin(ChainDesk desk, int n) {
        try {
            desk.begin(n);
            return 0;
        } catch (IllegalArgumentException e) {
            return argument(e);
        }
    }

    static long whole(ChainDesk desk, int i, int m) {
        try {
            desk.whole(i, m);
            return 0;
        } catch (IllegalArgumentException e) {
            return argument(e);
        }
    }

    static long part(ChainDesk desk, int i, int j, int v) {
        try {
            return desk.part(i, j, v);
        } catch (IllegalArgumentException e) {
            return argument(e);
        } catch (IllegalStateException e) {
            return e.getClass() == IllegalStateException.class ? STATE : ANOTHER;
        }
    }

    private static long argument(IllegalArgumentException e) {
        return e.getClass() == IllegalArgumentException.class ? ARGUMENT : ANOTHER;
    }

    /** All of what was printed, read character by character. */
    static String text(ChainDesk desk) {
        StringBuilder text = new StringBuilder();
        for (int k = 0; desk.character(k) != ChainDesk.NONE; k++) {
            text.append((char) desk.character(k));
        }
        return text.toString();
    }

    static void end() {
        System.out.println(passed + " passed, " + failed + " failed");
        if (failed != 0) {
            System.exit(1);
        }
    }
}
