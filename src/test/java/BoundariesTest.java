import java.math.BigInteger;

/** A test for each sentence of "Terms" and of promises 1 to 5 that names a boundary. */
public final class BoundariesTest {
    private static final int LEAST = Integer.MIN_VALUE;
    private static final int GREATEST = Integer.MAX_VALUE;
    private static final int MOST = 999999999;
    private static final int ARGUMENT_TOO_GREAT = 1000000000;

    public static void main(String[] args) {
        usedForAtMost512Calls();
        oneToFortyStates();
        wholesFromOneToTheGreatest();
        partsTogetherNotAboveTheWhole();
        otherwiseToNothing();
        atFirst();
        theWeightIsTheLeastSuch();
        largeAbove480();
        stuckWithNoEnd();
        stuckByPartsAboveNothing();
        stuckFromSomeState();
        newObject();
        beginTakesStates();
        beginRefuses();
        beginForgets();
        wholeTakesPartsAway();
        wholeRefusesState();
        wholeRefusesNumber();
        partTellsWhatIsLeft();
        partRefusesStateOrTarget();
        partRefusesNumber();
        partRefusesSum();
        partWrongArgumentBeforeSum();
        nothingIsWorkedOutBehindAChange();
        solveTellsLargeBeforeStuck();
        refusedThenNoneAreWorkedOut();
        Check.end();
    }

    private static void due(String call, long got, long want) {
        Check.due(call, got, want);
    }

    private static void dueText(Desk desk, int i, String want) {
        long length = desk.print(i);
        due("print(" + i + ")", length, want.length());
        Check.due("what print(" + i + ") printed", desk.text(), want);
    }

    private static void dueUnknown(String when, Desk desk, int i) {
        due(when + ": print", desk.print(i), -1);
        due(when + ": compare", desk.compare(i, i), -2);
        due(when + ": billionths", desk.billionths(i), -1);
        due(when + ": places of ABOVE", desk.places(i, 0), -1);
        due(when + ": places of BELOW", desk.places(i, 1), -1);
    }

    private static void dueUnknownToAll(String when, Desk desk, int n) {
        for (int i = 0; i < n; i++) {
            dueUnknown(when + ", state " + i, desk, i);
        }
    }

    private static void usedForAtMost512Calls() {
        Check.sentence("An object is used for at most 512 calls");
        Desk desk = new Desk();
        desk.begin(2);
        desk.whole(1, 4);
        for (int v = 0; desk.calls() < Desk.MOST_CALLS - 9; v = (v + 1) % 5) {
            due("part", desk.part(1, 2, v), 4 - v);
            due("solve()", desk.solve(), 0);
            due("billionths(1)", desk.billionths(1), 250000000 * v);
        }
        due("part", desk.part(1, 2, 3), 1);
        due("solve()", desk.solve(), 0);
        due("print(1)", desk.print(1), 3);
        while (desk.calls() < Desk.MOST_CALLS - 1) {
            due("character(2)", desk.character(2), '4');
        }
        due("the 512th call", desk.character(0), '3');
    }

    private static void oneToFortyStates() {
        Check.sentence("Terms: n from 1 to 40");
        for (int n = 1; n <= 40; n++) {
            Desk desk = new Desk();
            due("begin(" + n + ")", desk.begin(n), 0);
            due("the first state", desk.part(0, 0, 0), 1);
            due("the last state to the goal", desk.part(n - 1, n, 1), 0);
            due("no state behind the last", desk.whole(n, 1), Check.ARGUMENT);
            due("no j behind the goal", desk.part(0, n + 1, 0), Check.ARGUMENT);
            due("solve()", desk.solve(), 0);
            dueText(desk, n - 1, "1");
            due("print behind the last", desk.print(n), -1);
        }
    }

    private static void wholesFromOneToTheGreatest() {
        Check.sentence("Terms: State i has a WHOLE M(i), from 1 to 999999999");
        Desk desk = new Desk();
        due("whole(0, 0)", desk.whole(0, 0), Check.ARGUMENT);
        due("whole(0, 1)", desk.whole(0, 1), 0);
        due("what is left of 1", desk.part(0, 0, 0), 1);
        due("whole(0, 999999999)", desk.whole(0, MOST), 0);
        due("what is left of 999999999", desk.part(0, 0, 0), MOST);
        due("whole(0, 1000000000)", desk.whole(0, ARGUMENT_TOO_GREAT), Check.ARGUMENT);
        due("what is left of it then", desk.part(0, 0, 0), MOST);
    }

    private static void partsTogetherNotAboveTheWhole() {
        Check.sentence("Terms: PARTS a(i,j), not below 0, together not above M(i)");
        Desk desk = new Desk();
        desk.begin(40);
        desk.whole(17, 41);
        for (int j = 0; j <= 40; j++) {
            due("part(17, " + j + ", 1)", desk.part(17, j, 1), 40 - j);
        }
        for (int j = 0; j <= 40; j++) {
            due("part(17, " + j + ", 2)", desk.part(17, j, 2), Check.STATE);
            due("part(17, " + j + ", -1)", desk.part(17, j, -1), Check.ARGUMENT);
        }
        due("part(17, 3, 0)", desk.part(17, 3, 0), 1);
        due("part(17, 40, 2)", desk.part(17, 40, 2), 0);
        due("part(17, 3, 1)", desk.part(17, 3, 1), Check.STATE);
    }

    private static void otherwiseToNothing() {
        Check.sentence("Terms: with chance a(i,j) / M(i) .. otherwise to nothing");
        Desk desk = Desk.toTheGoal(0, 1, 1, 1, MOST - 1, MOST, MOST, MOST, 0, MOST, 1, MOST);
        due("solve()", desk.solve(), 0);
        String[] want = {"0", "1", "999999998/999999999", "1", "0", "1/999999999"};
        for (int i = 0; i < want.length; i++) {
            dueText(desk, i, want[i]);
        }
    }

    private static void atFirst() {
        Check.sentence("Terms: At first each M is 1 and all parts are 0");
        Desk desk = new Desk();
        desk.begin(40);
        for (int i = 0; i < 40; i++) {
            due("a part of 2 in state " + i, desk.part(i, 40, 2), Check.STATE);
            due("what is left in state " + i, desk.part(i, i, 0), 1);
            due("all of it to the goal from state " + i, desk.part(i, 40, 1), 0);
        }
        desk.begin(40);
        due("solve()", desk.solve(), 0);
        for (int i = 0; i < 40; i++) {
            due("billionths(" + i + ")", desk.billionths(i), 0);
        }
    }

    /** States 1 and up get so much above their first weight of 1 as is told. */
    private static void weighDown(Desk desk, int over) {
        int state = 1;
        for (int left = over; left > 0; state++) {
            int more = Math.min(left, 29);
            desk.whole(state, 1 << more);
            left -= more;
        }
    }

    private static Desk weighing(int whole, int weight) {
        Desk desk = new Desk();
        desk.begin(40);
        desk.whole(0, whole);
        weighDown(desk, 480 - 39 - weight);
        return desk;
    }

    private static void theWeightIsTheLeastSuch() {
        Check.sentence("Terms: THE WEIGHT is the least k with 2^k not below 2 M(i)");
        for (int k = 1; k <= 31; k++) {
            int greatest = k == 31 ? MOST : 1 << (k - 1);
            int least = k == 1 ? 1 : (1 << (k - 2)) + 1;
            Desk desk = weighing(greatest, k);
            due("480 with a whole of " + greatest, desk.solve(), 0);
            if (k < 31) {
                desk.whole(0, greatest + 1);
                due("481 with a whole of " + (greatest + 1), desk.solve(), ChainDesk.LARGE);
            }
            desk.whole(0, least);
            due("480 with a whole of " + least, desk.solve(), 0);
            desk.whole(39, 2);
            due("481 with a whole of " + least, desk.solve(), ChainDesk.LARGE);
        }
    }

    private static void largeAbove480() {
        Check.sentence("Terms: REFUSED as LARGE, if all weights together are above 480");
        Desk desk = Desk.inARow(16, 1, 536870912);
        due("480: solve()", desk.solve(), 0);
        dueText(desk, 0, "1/" + BigInteger.TWO.pow(29 * 16));
        desk.whole(15, 536870913);
        due("481: solve()", desk.solve(), ChainDesk.LARGE);
        desk.whole(0, 268435456);
        due("480 again: solve()", desk.solve(), 0);
        Desk most = new Desk();
        most.begin(40);
        for (int i = 0; i < 40; i++) {
            most.whole(i, MOST);
        }
        due("1240: solve()", most.solve(), ChainDesk.LARGE);
        Desk fifteen = Desk.inARow(15, MOST - 1, MOST);
        due("15 of the greatest, 465: solve()", fifteen.solve(), 0);
        Desk sixteen = Desk.inARow(16, MOST - 1, MOST);
        due("16 of the greatest, 496: solve()", sixteen.solve(), ChainDesk.LARGE);
        Desk least = new Desk();
        due("1: solve()", least.solve(), 0);
    }

    private static void stuckWithNoEnd() {
        Check.sentence("Terms: STUCK, if neither the goal nor nothing can be come to");
        Desk desk = new Desk();
        desk.whole(0, MOST);
        due("part", desk.part(0, 0, MOST - 1), 1);
        due("1 to nothing: solve()", desk.solve(), 0);
        dueText(desk, 0, "0");
        due("part", desk.part(0, 1, 1), 0);
        due("1 to the goal: solve()", desk.solve(), 0);
        dueText(desk, 0, "1");
        desk.part(0, 1, 0);
        due("part", desk.part(0, 0, MOST), 0);
        due("all to itself: solve()", desk.solve(), ChainDesk.STUCK);
        Desk ring = ringOfForty();
        due("a ring of 40: solve()", ring.solve(), ChainDesk.STUCK);
        for (int i = 0; i < 40; i++) {
            ring.whole(i, 2);
            ring.part(i, (i + 1) % 40, 1);
            due("open at " + i + " to nothing: solve()", ring.solve(), 0);
            ring.part(i, 40, 1);
            due("open at " + i + " to the goal: solve()", ring.solve(), 0);
            due("the likelihood then", ring.billionths((i + 20) % 40), 1000000000);
            ring.part(i, 40, 0);
            ring.part(i, (i + 1) % 40, 2);
            due("closed at " + i + ": solve()", ring.solve(), ChainDesk.STUCK);
        }
    }

    private static Desk ringOfForty() {
        Desk ring = new Desk();
        ring.begin(40);
        for (int i = 0; i < 40; i++) {
            ring.part(i, (i + 1) % 40, 1);
        }
        return ring;
    }

    private static void stuckByPartsAboveNothing() {
        Check.sentence("Terms: STUCK .. (by parts that are above 0)");
        Desk desk = new Desk();
        desk.begin(2);
        desk.part(0, 0, 1);
        desk.part(1, 2, 1);
        desk.part(0, 1, 0);
        desk.part(0, 2, 0);
        due("parts of 0 lead nowhere: solve()", desk.solve(), ChainDesk.STUCK);
        desk.whole(0, 2);
        desk.part(0, 0, 1);
        desk.part(0, 1, 1);
        due("a part of 1 leads on: solve()", desk.solve(), 0);
        dueText(desk, 0, "1");
    }

    private static void stuckFromSomeState() {
        Check.sentence("Terms: STUCK, if from some state");
        for (int stuck = 0; stuck < 40; stuck++) {
            Desk desk = new Desk();
            desk.begin(40);
            for (int i = 0; i < 40; i++) {
                desk.part(i, i == stuck ? i : 40, 1);
            }
            due("only state " + stuck + ": solve()", desk.solve(), ChainDesk.STUCK);
            desk.part(stuck, stuck, 0);
            due("state " + stuck + " let go: solve()", desk.solve(), 0);
        }
    }

    private static void newObject() {
        Check.sentence("Promise 1: A chain of one state; nothing is worked out, nothing printed");
        Desk desk = new Desk();
        int[] places = {LEAST, -1, 0, 1, 280, GREATEST};
        for (int k : places) {
            due("character(" + k + ")", desk.character(k), -1);
        }
        int[] states = {LEAST, -1, 0, 1, 39, 40, GREATEST};
        for (int i : states) {
            dueUnknown("state " + i, desk, i);
        }
        due("nothing printed by that", desk.character(0), -1);
        due("whole(1, 1)", desk.whole(1, 1), Check.ARGUMENT);
        due("part(0, 2, 0)", desk.part(0, 2, 0), Check.ARGUMENT);
        due("part(0, 1, 1)", desk.part(0, 1, 1), 0);
        due("still nothing worked out", desk.print(0), -1);
        due("solve()", desk.solve(), 0);
        due("solve() prints nothing", desk.character(0), -1);
        dueText(desk, 0, "1");
    }

    private static void beginTakesStates() {
        Check.sentence("Promise 2: A chain of n states");
        int[] counts = {1, 40, 1, 2, 39, 40};
        Desk desk = new Desk();
        for (int n : counts) {
            due("begin(" + n + ")", desk.begin(n), 0);
            due("whole of the last", desk.whole(n - 1, 2), 0);
            due("whole behind the last", desk.whole(n, 2), Check.ARGUMENT);
            due("part to the goal", desk.part(n - 1, n, 1), 1);
            due("part behind the goal", desk.part(n - 1, n + 1, 1), Check.ARGUMENT);
            due("solve()", desk.solve(), 0);
            dueText(desk, n - 1, "1/2");
            dueUnknown("behind the last", desk, n);
        }
    }

    private static void beginRefuses() {
        Check.sentence("Promise 2: IllegalArgumentException when n is not 1 .. 40");
        int[] wrong = {LEAST, LEAST + 1, -40, -1, 0, 41, 42, 65537, GREATEST};
        for (int n : wrong) {
            Desk desk = Desk.toTheGoal(1, 2, 2, 3);
            desk.solve();
            desk.print(1);
            due("begin(" + n + ")", desk.begin(n), Check.ARGUMENT);
            Check.due("what was printed", desk.text(), "2/3");
            dueText(desk, 0, "1/2");
        }
    }

    /** What a longer chain left behind must not come back with a later one. */
    private static void beginForgets() {
        Check.sentence("Promise 2: nothing is worked out (and: At first each M is 1)");
        Desk desk = new Desk();
        desk.begin(4);
        for (int i = 0; i < 4; i++) {
            desk.whole(i, 25);
            for (int j = 0; j <= 4; j++) {
                desk.part(i, j, 5);
            }
        }
        due("solve()", desk.solve(), 0);
        desk.begin(2);
        dueUnknownToAll("a shorter chain", desk, 2);
        desk.begin(4);
        dueUnknownToAll("the longer one again", desk, 4);
        for (int i = 0; i < 4; i++) {
            for (int j = 0; j <= 4; j++) {
                due("part(" + i + ", " + j + ", 0)", desk.part(i, j, 0), 1);
            }
        }
        due("solve()", desk.solve(), 0);
        desk.begin(4);
        dueUnknownToAll("begun with as many states", desk, 4);
    }

    private static void wholeTakesPartsAway() {
        Check.sentence("Promise 3: State i's M becomes m, all its parts 0");
        Desk desk = new Desk();
        desk.begin(40);
        desk.whole(39, 82);
        desk.whole(0, 9);
        desk.part(0, 40, 4);
        for (int j = 0; j <= 40; j++) {
            due("part(39, " + j + ", 2)", desk.part(39, j, 2), 80 - 2 * j);
        }
        due("the same whole again", desk.whole(39, 82), 0);
        for (int j = 0; j <= 40; j++) {
            due("part(39, " + j + ", 0)", desk.part(39, j, 0), 82);
        }
        due("a lesser whole", desk.whole(39, 1), 0);
        due("what is left of it", desk.part(39, 40, 0), 1);
        due("the other state's parts stay", desk.part(0, 0, 0), 5);
    }

    private static void wholeRefusesState() {
        Check.sentence("Promise 3: IllegalArgumentException when there is no such state");
        int[] counts = {1, 2, 40};
        for (int n : counts) {
            Desk desk = new Desk();
            desk.begin(n);
            int[] wrong = {LEAST, -41, -1, n, n + 1, 41, 104755300, GREATEST};
            for (int i : wrong) {
                due("whole(" + i + ", 1)", desk.whole(i, 1), Check.ARGUMENT);
                due("whole(" + i + ", 0)", desk.whole(i, 0), Check.ARGUMENT);
            }
            due("whole(0, 1)", desk.whole(0, 1), 0);
            due("whole of the last", desk.whole(n - 1, 1), 0);
        }
    }

    private static void wholeRefusesNumber() {
        Check.sentence("Promise 3: IllegalArgumentException when m is not 1 .. 999999999");
        int[] wrong = {LEAST, -MOST, -1, 0, ARGUMENT_TOO_GREAT, GREATEST};
        for (int m : wrong) {
            Desk desk = Desk.toTheGoal(2, 5);
            desk.solve();
            due("whole(0, " + m + ")", desk.whole(0, m), Check.ARGUMENT);
            dueText(desk, 0, "2/5");
            due("its parts stay", desk.part(0, 0, 0), 3);
        }
    }

    private static void partTellsWhatIsLeft() {
        Check.sentence("Promise 4: What is left of M(i) behind all its parts");
        Desk desk = new Desk();
        desk.whole(0, MOST);
        due("part(0, 0, 0)", desk.part(0, 0, 0), MOST);
        due("part(0, 0, 1)", desk.part(0, 0, 1), MOST - 1);
        due("part(0, 1, 999999998)", desk.part(0, 1, MOST - 1), 0);
        due("part(0, 0, 0)", desk.part(0, 0, 0), 1);
        due("part(0, 1, 999999999)", desk.part(0, 1, MOST), 0);
        due("once more", desk.part(0, 1, MOST), 0);
        due("part(0, 1, 0)", desk.part(0, 1, 0), MOST);
        due("part(0, 0, 999999999)", desk.part(0, 0, MOST), 0);
        due("part(0, 0, 5)", desk.part(0, 0, 5), MOST - 5);
    }

    private static void partRefusesStateOrTarget() {
        Check.sentence("Promise 4: IllegalArgumentException when there is no such state or j");
        int[] counts = {1, 3, 40};
        for (int n : counts) {
            Desk desk = new Desk();
            desk.begin(n);
            int[] states = {LEAST, -1, n, n + 1, 41, 104755300, GREATEST};
            for (int i : states) {
                due("part(" + i + ", 0, 0)", desk.part(i, 0, 0), Check.ARGUMENT);
                due("part(" + i + ", n, 0)", desk.part(i, n, 0), Check.ARGUMENT);
            }
            int[] targets = {LEAST, -41, -1, n + 1, 41, 42, GREATEST};
            for (int j : targets) {
                due("part(0, " + j + ", 0)", desk.part(0, j, 0), Check.ARGUMENT);
                due("part(last, " + j + ", 0)", desk.part(n - 1, j, 0), Check.ARGUMENT);
            }
            due("part(0, 0, 0)", desk.part(0, 0, 0), 1);
            due("part(last, n, 1)", desk.part(n - 1, n, 1), 0);
        }
    }

    private static void partRefusesNumber() {
        Check.sentence("Promise 4: IllegalArgumentException when v is not 0 .. 999999999");
        int[] wrong = {LEAST, -ARGUMENT_TOO_GREAT, -1, ARGUMENT_TOO_GREAT, GREATEST};
        for (int v : wrong) {
            Desk desk = Desk.toTheGoal(3, 7);
            desk.solve();
            due("part(0, 0, " + v + ")", desk.part(0, 0, v), Check.ARGUMENT);
            due("part(0, 1, " + v + ")", desk.part(0, 1, v), Check.ARGUMENT);
            dueText(desk, 0, "3/7");
            due("part(0, 0, 0)", desk.part(0, 0, 0), 4);
        }
        Desk most = Desk.toTheGoal(0, MOST);
        due("part(0, 1, 999999999)", most.part(0, 1, MOST), 0);
    }

    private static void partRefusesSum() {
        Check.sentence("Promise 4: IllegalStateException when the parts would be above M(i)");
        Desk desk = new Desk();
        desk.begin(3);
        desk.whole(1, MOST);
        due("part(1, 0, 500000000)", desk.part(1, 0, 500000000), 499999999);
        due("one too many", desk.part(1, 3, 500000000), Check.STATE);
        due("just as many", desk.part(1, 3, 499999999), 0);
        due("one more beside", desk.part(1, 2, 1), Check.STATE);
        due("none beside", desk.part(1, 2, 0), 0);
        due("the greatest beside", desk.part(1, 2, MOST), Check.STATE);
        due("one more in place", desk.part(1, 0, 500000001), Check.STATE);
        due("as before in place", desk.part(1, 0, 500000000), 0);
        due("all in place of a part", desk.part(1, 0, MOST), Check.STATE);
        due("the other parts away", desk.part(1, 3, 0), 499999999);
        due("all in place of a part", desk.part(1, 0, MOST), 0);
        due("2 of a whole of 1", desk.part(0, 0, 2), Check.STATE);
        due("1 of a whole of 1", desk.part(0, 0, 1), 0);
    }

    private static void partWrongArgumentBeforeSum() {
        Check.sentence("Promise 4: IllegalArgumentException .. no such state or j, or v");
        Desk desk = new Desk();
        due("no such state, v above M", desk.part(1, 0, 2), Check.ARGUMENT);
        due("no such j, v above M", desk.part(0, 2, 2), Check.ARGUMENT);
        due("v too great and above M", desk.part(0, 0, ARGUMENT_TOO_GREAT), Check.ARGUMENT);
        due("v above M alone", desk.part(0, 0, MOST), Check.STATE);
    }

    private static void nothingIsWorkedOutBehindAChange() {
        Check.sentence("Promises 2, 3, 4: nothing is worked out");
        for (int change = 0; change < 6; change++) {
            Desk desk = Desk.toTheGoal(1, 3, 3, 4);
            dueUnknownToAll("before the first solve", desk, 2);
            due("solve()", desk.solve(), 0);
            dueText(desk, 1, "3/4");
            change(desk, change);
            dueUnknownToAll("behind change " + change, desk, 2);
            Check.due("what was printed behind change " + change, desk.text(), "3/4");
            due("solve()", desk.solve(), 0);
            dueText(desk, 0, change < 2 ? "0" : "1/3");
        }
    }

    /** A change that changes nothing of the chain is one all the same. */
    private static void change(Desk desk, int which) {
        switch (which) {
            case 0 -> desk.begin(2);
            case 1 -> desk.begin(40);
            case 2 -> desk.whole(1, 4);
            case 3 -> desk.whole(1, 5);
            case 4 -> desk.part(1, 2, 3);
            default -> desk.part(1, 0, 0);
        }
    }

    private static void solveTellsLargeBeforeStuck() {
        Check.sentence("Promise 5: 0, or how it is refused (LARGE before STUCK)");
        Desk desk = Desk.inARow(16, 1, 536870912);
        desk.part(15, 16, 0);
        desk.part(15, 15, 536870912);
        due("480 and stuck: solve()", desk.solve(), ChainDesk.STUCK);
        desk.whole(0, 536870913);
        due("481 and stuck: solve()", desk.solve(), ChainDesk.LARGE);
        desk.part(15, 15, 0);
        due("481 and not stuck: solve()", desk.solve(), ChainDesk.LARGE);
        desk.whole(0, 536870912);
        due("480 and not stuck: solve()", desk.solve(), 0);
        due("solve() again", desk.solve(), 0);
    }

    private static void refusedThenNoneAreWorkedOut() {
        Check.sentence("Promise 5: none are worked out then");
        Desk stuck = Desk.toTheGoal(1, 3, 1, 1);
        due("solve()", stuck.solve(), 0);
        dueText(stuck, 0, "1/3");
        stuck.part(1, 2, 0);
        stuck.part(1, 1, 1);
        for (int time = 0; time < 2; time++) {
            due("stuck: solve()", stuck.solve(), ChainDesk.STUCK);
            dueUnknownToAll("refused as STUCK", stuck, 2);
            Check.due("what was printed", stuck.text(), "1/3");
        }
        Desk large = Desk.inARow(16, 1, 2);
        due("solve()", large.solve(), 0);
        dueText(large, 15, "1/2");
        for (int i = 0; i < 16; i++) {
            large.whole(i, MOST);
        }
        for (int time = 0; time < 2; time++) {
            due("large: solve()", large.solve(), ChainDesk.LARGE);
            dueUnknownToAll("refused as LARGE", large, 16);
            Check.due("what was printed", large.text(), "1/2");
        }
        large.begin(1);
        due("solve() of a small chain", large.solve(), 0);
        dueText(large, 0, "0");
    }
}
