/**
 * "What throws changes nothing": every call that throws, in every situation an object can be in,
 * and after it every answer that the object gave before.
 */
public final class ThrowsTest {
    private static final int LEAST = Integer.MIN_VALUE;
    private static final int GREATEST = Integer.MAX_VALUE;

    public static void main(String[] args) {
        for (int situation = 0; situation < Situations.COUNT; situation++) {
            int states = Situations.states(situation);
            wrongBegins(situation);
            wrongWholes(situation, states);
            wrongParts(situation, states);
            sumsAboveTheWhole(situation, states);
        }
        Check.end();
    }

    private static void wrongBegins(int situation) {
        int[] wrong = {LEAST, -1, 0, 41, GREATEST};
        for (int n : wrong) {
            Desk desk = Situations.made(situation);
            String before = Situations.answers(desk, situation);
            String call = told(situation, "begin(" + n + ")");
            Check.due(call, desk.begin(n), Check.ARGUMENT);
            unchanged(call, desk, situation, before);
        }
    }

    private static void wrongWholes(int situation, int n) {
        int[][] wrong = {{LEAST, 5}, {-1, 5}, {n, 5}, {GREATEST, 5}, {0, LEAST}, {0, -1}, {0, 0},
            {0, 1000000000}, {0, GREATEST}, {n - 1, 0}, {n - 1, 1000000000}, {n, 0}, {-1, 0}};
        for (int[] of : wrong) {
            Desk desk = Situations.made(situation);
            String before = Situations.answers(desk, situation);
            String call = told(situation, "whole(" + of[0] + ", " + of[1] + ")");
            Check.due(call, desk.whole(of[0], of[1]), Check.ARGUMENT);
            unchanged(call, desk, situation, before);
        }
    }

    private static void wrongParts(int situation, int n) {
        int[][] wrong = {{LEAST, 0, 0}, {-1, 0, 0}, {n, 0, 0}, {GREATEST, 0, 0}, {0, LEAST, 0},
            {0, -1, 0}, {0, n + 1, 0}, {0, GREATEST, 0}, {0, 0, LEAST}, {0, 0, -1},
            {0, 0, 1000000000}, {0, 0, GREATEST}, {n - 1, n, -1}, {n - 1, n, 1000000000},
            {n, 0, 999999999}, {0, n + 1, 999999999}, {-1, n, 999999999}, {0, -1, 999999999}};
        for (int[] of : wrong) {
            tryPart(situation, of[0], of[1], of[2], Check.ARGUMENT);
        }
    }

    /** Each part is made one greater than its whole lets it be, and as great as a part can be. */
    private static void sumsAboveTheWhole(int situation, int n) {
        int[] targets = {0, n - 1, n};
        for (int i = 0; i < n; i += n > 3 ? 5 : 1) {
            for (int j : targets) {
                int greatest = (int) Situations.made(situation).part(i, j, 0);
                if (greatest < 999999999) {
                    tryPart(situation, i, j, greatest + 1, Check.STATE);
                    tryPart(situation, i, j, 999999999, Check.STATE);
                }
            }
        }
    }

    private static void tryPart(int situation, int i, int j, int v, long due) {
        Desk desk = Situations.made(situation);
        String before = Situations.answers(desk, situation);
        String call = told(situation, "part(" + i + ", " + j + ", " + v + ")");
        Check.due(call, desk.part(i, j, v), due);
        unchanged(call, desk, situation, before);
    }

    private static String told(int situation, String call) {
        return "situation " + situation + ", " + call;
    }

    /** The answers are those of before, and the chain is that of a desk where nothing threw. */
    private static void unchanged(String call, Desk desk, int situation, String before) {
        Check.due(call + ", then every answer", Situations.answers(desk, situation), before);
        Desk quiet = Situations.made(situation);
        Check.due(call + ", then solve()", desk.solve(), quiet.solve());
        Check.due(call + ", then the likelihoods", Situations.likelihoods(desk, situation),
            Situations.likelihoods(quiet, situation));
        Check.due(call + ", then the parts", Situations.parts(desk, situation),
            Situations.parts(quiet, situation));
    }
}
