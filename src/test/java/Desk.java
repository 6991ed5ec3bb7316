/** A desk whose calls are counted: the document promises nothing behind the 512th. */
final class Desk {
    static final int MOST_CALLS = 512;

    private final ChainDesk desk = new ChainDesk();
    private int calls = 0;

    /** State k goes to the goal by fractions[2 * k] / fractions[2 * k + 1]; not yet worked out. */
    static Desk toTheGoal(int... fractions) {
        Desk desk = new Desk();
        int n = fractions.length / 2;
        desk.begin(n);
        for (int k = 0; k < n; k++) {
            desk.whole(k, fractions[2 * k + 1]);
            desk.part(k, n, fractions[2 * k]);
        }
        return desk;
    }

    /** Each state goes on to the next by v / m, the last one to the goal; not yet worked out. */
    static Desk inARow(int n, int v, int m) {
        Desk desk = new Desk();
        desk.begin(n);
        for (int k = 0; k < n; k++) {
            desk.whole(k, m);
            desk.part(k, k + 1, v);
        }
        return desk;
    }

    /** An error, so that no test takes it for what the desk throws. */
    private ChainDesk next() {
        calls++;
        if (calls > MOST_CALLS) {
            throw new AssertionError("the test itself calls more often than the document allows");
        }
        return desk;
    }

    int calls() {
        return calls;
    }

    long begin(int n) {
        return Check.begin(next(), n);
    }

    long whole(int i, int m) {
        return Check.whole(next(), i, m);
    }

    long part(int i, int j, int v) {
        return Check.part(next(), i, j, v);
    }

    long solve() {
        return next().solve();
    }

    long print(int i) {
        return next().print(i);
    }

    long character(int k) {
        return next().character(k);
    }

    long compare(int i, int other) {
        return next().compare(i, other);
    }

    long billionths(int i) {
        return next().billionths(i);
    }

    long places(int i, int which) {
        return next().places(i, which);
    }

    /** All of what was printed, read character by character. */
    String text() {
        StringBuilder text = new StringBuilder();
        for (long letter = character(0); letter != -1; letter = character(text.length())) {
            text.append((char) letter);
        }
        return text.toString();
    }
}
