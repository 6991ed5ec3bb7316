/** Each promise of the document by runs made by hand: ordinary inputs, edges, wrong inputs. */
public final class PromisesTest {
    private static final int LEAST = Integer.MIN_VALUE;
    private static final int GREATEST = Integer.MAX_VALUE;

    public static void main(String[] args) {
        aNewObject();
        begin();
        whole();
        part();
        solve();
        solveRefusesLarge();
        solveRefusesStuck();
        print();
        printStays();
        character();
        compare();
        billionths();
        places();
        whatThrowsChangesNothing();
        Check.end();
    }

    private static void due(String call, long got, long want) {
        Check.due(call, got, want);
    }

    /** State i of a desk whose chain is worked out: its likelihood as text. */
    private static String printed(ChainDesk desk, int i) {
        int length = desk.print(i);
        String text = Check.text(desk);
        due("how many characters print(" + i + ") tells", length, text.length());
        return text;
    }

    private static void dueText(String what, ChainDesk desk, int i, String want) {
        Check.due(what + ": print(" + i + ")", printed(desk, i), want);
    }

    /** One state that goes to the goal by v / m, worked out. */
    private static ChainDesk single(int v, int m) {
        ChainDesk desk = new ChainDesk();
        desk.whole(0, m);
        desk.part(0, 1, v);
        due("solve() of one state", desk.solve(), 0);
        return desk;
    }

    /** State i goes to the goal by tops[i] / bottoms[i], worked out. */
    private static ChainDesk several(int[] tops, int[] bottoms) {
        ChainDesk desk = new ChainDesk();
        desk.begin(tops.length);
        for (int i = 0; i < tops.length; i++) {
            desk.whole(i, bottoms[i]);
            desk.part(i, tops.length, tops[i]);
        }
        due("solve() of several states", desk.solve(), 0);
        return desk;
    }

    private static void dueUnknown(String when, ChainDesk desk, int i) {
        due(when + ": print", desk.print(i), -1);
        due(when + ": compare", desk.compare(i, i), -2);
        due(when + ": billionths", desk.billionths(i), -1);
        due(when + ": places 0", desk.places(i, 0), -1);
        due(when + ": places 1", desk.places(i, 1), -1);
    }

    private static void aNewObject() {
        ChainDesk desk = new ChainDesk();
        dueUnknown("a new object", desk, 0);
        due("a new object has printed nothing", desk.character(0), -1);
        due("a new object has no state 1", Check.whole(desk, 1, 1), Check.ARGUMENT);
        due("a new object has the goal at 1", Check.part(desk, 0, 1, 1), 0);
        desk = new ChainDesk();
        due("a new whole is 1", Check.part(desk, 0, 0, 2), Check.STATE);
        due("a new part is 0", Check.part(desk, 0, 0, 0), 1);
        due("a new chain is solved", desk.solve(), 0);
        dueText("a new chain", desk, 0, "0");
        ChainDesk other = new ChainDesk();
        dueUnknown("another object", other, 0);
    }

    private static void begin() {
        ChainDesk desk = single(1, 3);
        int[] wrong = {LEAST, -40, -1, 0, 41, 42, GREATEST};
        for (int n : wrong) {
            due("begin(" + n + ")", Check.begin(desk, n), Check.ARGUMENT);
            dueText("after a wrong begin", desk, 0, "1/3");
        }
        for (int n = 1; n <= 40; n++) {
            desk = single(1, 3);
            due("begin(" + n + ")", Check.begin(desk, n), 0);
            dueUnknown("after begin", desk, 0);
            due("the last state is there", Check.part(desk, n - 1, n, 1), 0);
            due("no state behind it", Check.part(desk, n, 0, 0), Check.ARGUMENT);
            due("no target behind the goal", Check.part(desk, 0, n + 1, 0), Check.ARGUMENT);
            due("solve()", desk.solve(), 0);
            dueText("the last state", desk, n - 1, "1");
            if (n > 1) {
                dueText("the first state", desk, 0, "0");
            }
        }
        beginForgets();
    }

    private static void beginForgets() {
        ChainDesk desk = new ChainDesk();
        desk.begin(3);
        for (int i = 0; i < 3; i++) {
            desk.whole(i, 10);
            for (int j = 0; j < 4; j++) {
                desk.part(i, j, 2);
            }
        }
        desk.begin(2);
        due("a part behind begin", Check.part(desk, 0, 0, 0), 1);
        desk.begin(3);
        for (int i = 0; i < 3; i++) {
            due("wholes and parts behind begin", Check.part(desk, i, 3, 0), 1);
        }
        due("solve()", desk.solve(), 0);
        dueText("a chain begun anew", desk, 2, "0");
        desk.begin(3);
        dueUnknown("begin of the same size", desk, 0);
    }

    private static void whole() {
        ChainDesk desk = new ChainDesk();
        desk.begin(2);
        int[] states = {LEAST, -2, -1, 2, 3, 40, GREATEST};
        for (int i : states) {
            due("whole(" + i + ", 5)", Check.whole(desk, i, 5), Check.ARGUMENT);
        }
        int[] wrong = {LEAST, -1, 0, 1000000000, GREATEST};
        for (int m : wrong) {
            due("whole(0, " + m + ")", Check.whole(desk, 0, m), Check.ARGUMENT);
        }
        due("whole(0, 1)", Check.whole(desk, 0, 1), 0);
        due("whole(1, 999999999)", Check.whole(desk, 1, 999999999), 0);
        due("all of the greatest whole is left", Check.part(desk, 1, 0, 0), 999999999);
        due("a part of it", Check.part(desk, 1, 2, 600), 999999399);
        due("solve()", desk.solve(), 0);
        due("the same whole once more", Check.whole(desk, 1, 999999999), 0);
        dueUnknown("behind whole", desk, 0);
        due("whole takes the parts away", Check.part(desk, 1, 1, 0), 999999999);
        due("solve()", desk.solve(), 0);
        dueText("no parts", desk, 1, "0");
        desk.whole(0, 8);
        desk.part(0, 2, 3);
        desk.whole(1, 4);
        due("the other state's parts stay", Check.part(desk, 0, 0, 0), 5);
    }

    private static void part() {
        ChainDesk desk = new ChainDesk();
        desk.begin(3);
        desk.whole(1, 10);
        due("part(1, 0, 4)", Check.part(desk, 1, 0, 4), 6);
        due("part(1, 1, 3)", Check.part(desk, 1, 1, 3), 3);
        due("part(1, 3, 3)", Check.part(desk, 1, 3, 3), 0);
        due("one more is too much", Check.part(desk, 1, 2, 1), Check.STATE);
        due("nothing more is fine", Check.part(desk, 1, 2, 0), 0);
        due("a part takes the old one's place", Check.part(desk, 1, 0, 1), 3);
        due("and may grow to what is left", Check.part(desk, 1, 0, 4), 0);
        due("and no further", Check.part(desk, 1, 0, 5), Check.STATE);
        due("the greatest part is too much", Check.part(desk, 1, 0, 999999999), Check.STATE);
        int[] states = {LEAST, -1, 3, 4, GREATEST};
        for (int i : states) {
            due("part(" + i + ", 0, 0)", Check.part(desk, i, 0, 0), Check.ARGUMENT);
        }
        int[] targets = {LEAST, -1, 4, 5, 41, GREATEST};
        for (int j : targets) {
            due("part(0, " + j + ", 0)", Check.part(desk, 0, j, 0), Check.ARGUMENT);
        }
        int[] values = {LEAST, -1, 1000000000, GREATEST};
        for (int v : values) {
            due("part(1, 0, " + v + ")", Check.part(desk, 1, 0, v), Check.ARGUMENT);
        }
        due("a wrong state goes before a sum", Check.part(desk, 3, 0, 5), Check.ARGUMENT);
        due("solve()", desk.solve(), 0);
        dueText("three parts", desk, 1, "3/7");
        due("the same part once more", Check.part(desk, 1, 0, 4), 0);
        dueUnknown("behind part", desk, 1);
        ChainDesk great = new ChainDesk();
        great.whole(0, 999999999);
        due("the greatest part", Check.part(great, 0, 1, 999999999), 0);
        due("beside it nothing", Check.part(great, 0, 0, 999999999), Check.STATE);
    }

    private static void solve() {
        ChainDesk desk = new ChainDesk();
        desk.begin(3);
        desk.whole(0, 2);
        desk.part(0, 1, 1);
        desk.part(0, 2, 1);
        desk.whole(1, 3);
        desk.part(1, 0, 1);
        desk.part(1, 3, 1);
        desk.whole(2, 7);
        desk.part(2, 2, 6);
        due("solve()", desk.solve(), 0);
        dueText("a loop of two", desk, 0, "1/5");
        dueText("a loop of two", desk, 1, "2/5");
        dueText("a loop on itself", desk, 2, "0");
        due("solve() once more", desk.solve(), 0);
        dueText("solved twice", desk, 1, "2/5");
        desk.part(2, 3, 1);
        due("solve() behind a change", desk.solve(), 0);
        dueText("changed", desk, 0, "4/5");
        dueText("changed", desk, 1, "3/5");
        dueText("changed", desk, 2, "1");
        gamblersRuin(40);
        gamblersRuin(2);
        longWay();
    }

    /** One step up or down alike: state i comes to the goal by (i + 1) / (n + 1). */
    private static void gamblersRuin(int n) {
        ChainDesk desk = new ChainDesk();
        desk.begin(n);
        for (int i = 0; i < n; i++) {
            desk.whole(i, 2);
            desk.part(i, i + 1, 1);
            if (i > 0) {
                desk.part(i, i - 1, 1);
            }
        }
        due("solve() of a walk", desk.solve(), 0);
        for (int i = 0; i < n; i++) {
            int common = java.math.BigInteger.valueOf(i + 1)
                .gcd(java.math.BigInteger.valueOf(n + 1)).intValue();
            dueText("a walk", desk, i, (i + 1) / common + "/" + (n + 1) / common);
        }
    }

    /** Fifteen states in a row, each going on by 1 / 999999999: 135 nines' worth of digits. */
    private static void longWay() {
        ChainDesk desk = new ChainDesk();
        desk.begin(15);
        java.math.BigInteger below = java.math.BigInteger.ONE;
        for (int i = 0; i < 15; i++) {
            desk.whole(i, 999999999);
            desk.part(i, i + 1, 1);
            below = below.multiply(java.math.BigInteger.valueOf(999999999));
        }
        due("solve() of a long way", desk.solve(), 0);
        dueText("a long way", desk, 0, "1/" + below);
        due("its places above", desk.places(0, 0), 1);
        due("its places below", desk.places(0, 1), below.bitLength());
        due("its billionths", desk.billionths(0), 0);
        due("billionths of its last state", desk.billionths(14), 1);
        due("nearer is likelier", desk.compare(0, 1), -1);
    }

    private static void solveRefusesLarge() {
        ChainDesk desk = new ChainDesk();
        desk.begin(16);
        for (int i = 0; i < 16; i++) {
            desk.whole(i, 536870912);
            desk.part(i, 16, 1);
        }
        due("16 weights of 30", desk.solve(), 0);
        dueText("16 weights of 30", desk, 15, "1/536870912");
        desk.whole(7, 536870913);
        due("one weight more", desk.solve(), ChainDesk.LARGE);
        due("one weight more, asked again", desk.solve(), ChainDesk.LARGE);
        dueUnknown("refused as LARGE", desk, 0);
        desk.part(3, 16, 0);
        desk.part(3, 3, 536870912);
        due("LARGE before STUCK", desk.solve(), ChainDesk.LARGE);
        desk.whole(7, 536870912);
        due("STUCK when no more LARGE", desk.solve(), ChainDesk.STUCK);
        desk.begin(40);
        for (int i = 0; i < 40; i++) {
            desk.whole(i, 2048);
        }
        due("40 weights of 12", desk.solve(), 0);
        desk.whole(39, 2049);
        due("40 weights, one of 13", desk.solve(), ChainDesk.LARGE);
        desk.whole(0, 1024);
        due("one of 11 beside it", desk.solve(), 0);
        desk.whole(0, 1025);
        due("one of 12 beside it", desk.solve(), ChainDesk.LARGE);
        smallWeights();
    }

    /** A whole of 1 weighs 1, of 2 it weighs 2, of 3 and 4 it weighs 3, of 999999999 it is 31. */
    private static void smallWeights() {
        int[] wholes = {1, 2, 3, 4, 5, 999999999};
        int[] weights = {1, 2, 3, 3, 4, 31};
        for (int k = 0; k < wholes.length; k++) {
            ChainDesk desk = new ChainDesk();
            desk.begin(40);
            int over = 480 - 39 - weights[k];
            int last = 1;
            desk.whole(0, wholes[k]);
            while (over > 0) {
                int more = Math.min(over, 29);
                desk.whole(last, 1 << more);
                over -= more;
                last++;
            }
            due("480 with a whole of " + wholes[k], desk.solve(), 0);
            desk.whole(39, 2);
            due("481 with a whole of " + wholes[k], desk.solve(), ChainDesk.LARGE);
        }
    }

    private static void solveRefusesStuck() {
        ChainDesk desk = new ChainDesk();
        desk.part(0, 0, 1);
        due("one state in itself", desk.solve(), ChainDesk.STUCK);
        dueUnknown("refused as STUCK", desk, 0);
        desk.begin(3);
        desk.part(0, 1, 1);
        desk.part(1, 2, 1);
        desk.part(2, 0, 1);
        due("a ring", desk.solve(), ChainDesk.STUCK);
        desk.whole(2, 999999999);
        desk.part(2, 0, 999999998);
        due("a ring that leaks to nothing", desk.solve(), 0);
        dueText("a ring that leaks to nothing", desk, 0, "0");
        desk.part(2, 3, 1);
        due("a ring that leaks to the goal", desk.solve(), 0);
        dueText("a ring that leaks to the goal", desk, 1, "1");
        desk.begin(4);
        desk.whole(0, 2);
        desk.part(0, 4, 1);
        desk.part(0, 2, 1);
        desk.part(2, 3, 1);
        desk.part(3, 2, 1);
        due("a ring that others come to", desk.solve(), ChainDesk.STUCK);
        desk.part(3, 2, 0);
        due("the ring opened", desk.solve(), 0);
        dueText("the ring opened", desk, 0, "1/2");
        wayThroughAll(true);
        wayThroughAll(false);
    }

    /** The end is found from the far side of all forty states, whichever way they are numbered. */
    private static void wayThroughAll(boolean upward) {
        ChainDesk desk = new ChainDesk();
        desk.begin(40);
        for (int k = 0; k < 39; k++) {
            desk.part(upward ? k : 39 - k, upward ? k + 1 : 38 - k, 1);
        }
        int last = upward ? 39 : 0;
        desk.part(last, 40, 1);
        due("a way through all states", desk.solve(), 0);
        dueText("a way through all states", desk, 39 - last, "1");
        desk.part(last, 40, 0);
        desk.part(last, last, 1);
        due("a way to a stuck state", desk.solve(), ChainDesk.STUCK);
    }

    private static void print() {
        dueText("a likelihood of 1", single(5, 5), 0, "1");
        dueText("a likelihood of 0", single(0, 5), 0, "0");
        dueText("least terms", single(6, 8), 0, "3/4");
        dueText("least terms by odd divisors", single(45, 105), 0, "3/7");
        dueText("least terms already", single(999999998, 999999999), 0, "999999998/999999999");
        dueText("a power of two", single(1, 536870912), 0, "1/536870912");
        dueText("twos above alone", single(536870912, 999999999), 0, "536870912/999999999");
        ChainDesk desk = several(new int[] {1, 2}, new int[] {2, 3});
        int[] wrong = {LEAST, -1, 2, 3, 40, GREATEST};
        due("print(0)", desk.print(0), 3);
        for (int i : wrong) {
            due("print(" + i + ")", desk.print(i), -1);
            Check.due("what a wrong print leaves", Check.text(desk), "1/2");
        }
        dueText("another state", desk, 1, "2/3");
        dueText("the first again", desk, 0, "1/2");
    }

    private static void printStays() {
        ChainDesk desk = several(new int[] {123, 1}, new int[] {1000, 1});
        due("print(0)", desk.print(0), 8);
        desk.whole(0, 9);
        Check.due("printed stays behind whole", Check.text(desk), "123/1000");
        desk.part(0, 0, 9);
        Check.due("printed stays behind part", Check.text(desk), "123/1000");
        due("print when nothing is worked out", desk.print(0), -1);
        Check.due("and what was printed stays", Check.text(desk), "123/1000");
        due("solve()", desk.solve(), ChainDesk.STUCK);
        Check.due("printed stays behind a refusal", Check.text(desk), "123/1000");
        desk.begin(5);
        Check.due("printed stays behind begin", Check.text(desk), "123/1000");
        due("solve()", desk.solve(), 0);
        Check.due("printed stays behind solve", Check.text(desk), "123/1000");
        dueText("a shorter print", desk, 4, "0");
        due("nothing of the longer one is left", desk.character(1), -1);
    }

    private static void character() {
        ChainDesk desk = single(40, 97);
        due("nothing printed yet", desk.character(0), -1);
        due("print(0)", desk.print(0), 5);
        due("character(0)", desk.character(0), '4');
        due("character(1)", desk.character(1), '0');
        due("character(2)", desk.character(2), '/');
        due("character(3)", desk.character(3), '9');
        due("character(4)", desk.character(4), '7');
        int[] wrong = {LEAST, -1, 5, 6, 300, 301, 302, GREATEST};
        for (int k : wrong) {
            due("character(" + k + ")", desk.character(k), -1);
        }
        due("character(0) again", desk.character(0), '4');
    }

    private static void compare() {
        int[] tops = {0, 1, 333333333, 333333333, 2, 1, 1};
        int[] bottoms = {7, 3, 999999999, 999999998, 3, 1, 1};
        int[][] order = {{0}, {1, 2}, {3}, {4}, {5, 6}};
        ChainDesk desk = several(tops, bottoms);
        for (int a = 0; a < order.length; a++) {
            for (int b = 0; b < order.length; b++) {
                for (int i : order[a]) {
                    for (int other : order[b]) {
                        String call = "compare(" + i + ", " + other + ")";
                        due(call, desk.compare(i, other), Integer.compare(a, b));
                    }
                }
            }
        }
        int[] wrong = {LEAST, -1, 7, 40, GREATEST};
        for (int i : wrong) {
            due("compare(" + i + ", 0)", desk.compare(i, 0), -2);
            due("compare(0, " + i + ")", desk.compare(0, i), -2);
            due("compare(" + i + ", itself)", desk.compare(i, i), -2);
        }
    }

    private static void billionths() {
        due("billionths of 0", single(0, 9).billionths(0), 0);
        due("billionths of 1", single(9, 9).billionths(0), 1000000000);
        due("billionths of 1/3", single(1, 3).billionths(0), 333333333);
        due("billionths of 2/3", single(2, 3).billionths(0), 666666666);
        due("billionths of 1/2", single(1, 2).billionths(0), 500000000);
        due("billionths just below 1", single(999999998, 999999999).billionths(0), 999999998);
        due("billionths of 1/999999999", single(1, 999999999).billionths(0), 1);
        due("billionths of 12345678/10^8", single(12345678, 100000000).billionths(0), 123456780);
        ChainDesk desk = new ChainDesk();
        desk.begin(2);
        desk.whole(0, 999999999);
        desk.part(0, 1, 999999998);
        desk.part(0, 2, 1);
        desk.whole(1, 999999999);
        desk.part(1, 2, 999999998);
        due("solve()", desk.solve(), 0);
        due("nearer to 1 than a billionth", desk.billionths(0), 999999999);
        int[] wrong = {LEAST, -1, 2, 40, GREATEST};
        for (int i : wrong) {
            due("billionths(" + i + ")", desk.billionths(i), -1);
        }
    }

    private static void places() {
        ChainDesk desk = several(new int[] {0, 6, 4, 3, 999999998}, new int[] {5, 8, 4, 16, 999999999});
        int[] above = {0, 2, 1, 2, 30};
        int[] below = {1, 3, 1, 5, 30};
        for (int i = 0; i < 5; i++) {
            due("places(" + i + ", 0)", desk.places(i, 0), above[i]);
            due("places(" + i + ", 1)", desk.places(i, 1), below[i]);
            int[] which = {LEAST, -1, 2, 3, GREATEST};
            for (int w : which) {
                due("places(" + i + ", " + w + ")", desk.places(i, w), -1);
            }
        }
        int[] wrong = {LEAST, -1, 5, 40, GREATEST};
        for (int i : wrong) {
            due("places(" + i + ", 0)", desk.places(i, 0), -1);
            due("places(" + i + ", 1)", desk.places(i, 1), -1);
        }
        due("solve() anew", resolved(desk), 0);
        due("places of the new likelihood", desk.places(4, 1), 2);
    }

    /** The state asked for latest changes: no least terms of before may be told. */
    private static long resolved(ChainDesk desk) {
        desk.print(4);
        desk.whole(4, 3);
        desk.part(4, 5, 1);
        return desk.solve();
    }

    private static void whatThrowsChangesNothing() {
        ChainDesk desk = several(new int[] {1, 5}, new int[] {4, 6});
        due("print(1)", desk.print(1), 3);
        due("begin(41)", Check.begin(desk, 41), Check.ARGUMENT);
        due("whole(2, 5)", Check.whole(desk, 2, 5), Check.ARGUMENT);
        due("whole(0, 0)", Check.whole(desk, 0, 0), Check.ARGUMENT);
        due("part(0, 3, 1)", Check.part(desk, 0, 3, 1), Check.ARGUMENT);
        due("part(0, 0, -1)", Check.part(desk, 0, 0, -1), Check.ARGUMENT);
        due("part(0, 0, 4)", Check.part(desk, 0, 0, 4), Check.STATE);
        due("part(0, 2, 5)", Check.part(desk, 0, 2, 5), Check.STATE);
        Check.due("printed stays", Check.text(desk), "5/6");
        due("it is still worked out", desk.compare(0, 1), -1);
        due("and its billionths", desk.billionths(0), 250000000);
        dueText("and printed", desk, 0, "1/4");
        due("the parts are as before", Check.part(desk, 0, 0, 3), 0);
        due("solve()", desk.solve(), 0);
        dueText("the chain is as before", desk, 0, "1");
        dueText("the chain is as before", desk, 1, "5/6");
    }
}
