/**
 * A desk and the reference beside it: every call goes to both, and the answers are compared. It may
 * call more often than the 512 times that the document promises: no full chain of 40 states could
 * be made otherwise, and the class counts no calls.
 */
final class Pair {
    private final ChainDesk desk = new ChainDesk();
    private final Reference reference = new Reference();
    private final String name;

    Pair(String name) {
        this.name = name;
    }

    int states() {
        return reference.states();
    }

    int weight() {
        return reference.weight();
    }

    void begin(int n) {
        due("begin(" + n + ")", Check.begin(desk, n), reference.begin(n));
    }

    void whole(int i, int m) {
        due("whole(" + i + ", " + m + ")", Check.whole(desk, i, m), reference.whole(i, m));
    }

    void part(int i, int j, int v) {
        String call = "part(" + i + ", " + j + ", " + v + ")";
        due(call, Check.part(desk, i, j, v), reference.part(i, j, v));
    }

    long solve() {
        long want = reference.solve();
        due("solve()", desk.solve(), want);
        return want;
    }

    void print(int i) {
        due("print(" + i + ")", desk.print(i), reference.print(i));
        text();
    }

    void text() {
        Check.due(name + ": what is printed", Check.text(desk), reference.printed());
    }

    void character(int k) {
        due("character(" + k + ")", desk.character(k), reference.character(k));
    }

    void compare(int i, int other) {
        String call = "compare(" + i + ", " + other + ")";
        due(call, desk.compare(i, other), reference.compare(i, other));
    }

    void billionths(int i) {
        due("billionths(" + i + ")", desk.billionths(i), reference.billionths(i));
    }

    void places(int i, int which) {
        String call = "places(" + i + ", " + which + ")";
        due(call, desk.places(i, which), reference.places(i, which));
    }

    /** Everything that can be asked about the chain as it stands, and one state beyond it. */
    void askAll() {
        for (int i = -1; i <= states(); i++) {
            print(i);
            billionths(i);
            for (int which = -1; which <= 2; which++) {
                places(i, which);
            }
            for (int other = -1; other <= states(); other++) {
                compare(i, other);
            }
        }
    }

    private void due(String call, long got, long want) {
        Check.due(name + ": " + call, got, want);
    }
}
