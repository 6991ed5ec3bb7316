/**
 * "What throws changes nothing": every call that throws, in every situation an object can be in,
 * and after it every answer that the object gave before.
 */
public final class ThrowsTest {
    private static final int LEAST = Integer.MIN_VALUE;
    private static final int GREATEST = Integer.MAX_VALUE;

    private static final int NEW = 0;
    private static final int BUILT = 1;
    private static final int SOLVED = 2;
    private static final int BEGUN_AGAIN = 3;
    private static final int WHOLE_AGAIN = 4;
    private static final int PART_AGAIN = 5;
    private static final int STUCK = 6;
    private static final int LARGE = 7;
    private static final int SITUATIONS = 8;

    public static void main(String[] args) {
        for (int situation = 0; situation < SITUATIONS; situation++) {
            int states = states(situation);
            wrongBegins(situation);
            wrongWholes(situation, states);
            wrongParts(situation, states);
            sumsAboveTheWhole(situation, states);
        }
        Check.end();
    }

    private static int states(int situation) {
        if (situation == NEW) {
            return 1;
        }
        return situation == LARGE ? 16 : 3;
    }

    /** The last state's likelihood is what was printed, but for the first two situations. */
    private static Desk made(int situation) {
        if (situation == LARGE) {
            return large();
        }
        Desk desk = new Desk();
        if (situation == NEW) {
            return desk;
        }
        threeStates(desk);
        if (situation == BUILT) {
            return desk;
        }
        desk.solve();
        desk.print(2);
        if (situation == BEGUN_AGAIN) {
            desk.begin(3);
        } else if (situation == WHOLE_AGAIN) {
            desk.whole(1, 5);
        } else if (situation == PART_AGAIN) {
            desk.part(1, 0, 2);
        } else if (situation == STUCK) {
            desk.whole(2, 9);
            desk.part(2, 2, 9);
            desk.solve();
        }
        return desk;
    }

    private static void threeStates(Desk desk) {
        desk.begin(3);
        desk.whole(0, 7);
        desk.part(0, 0, 2);
        desk.part(0, 1, 3);
        desk.whole(1, 999999999);
        desk.part(1, 3, 999999998);
        desk.whole(2, 6);
        desk.part(2, 0, 1);
        desk.part(2, 3, 5);
    }

    private static Desk large() {
        Desk desk = Desk.inARow(16, 1, 8);
        desk.solve();
        desk.print(15);
        for (int i = 0; i < 16; i++) {
            desk.whole(i, 536870913);
            desk.part(i, i, 4);
        }
        desk.solve();
        return desk;
    }

    private static void wrongBegins(int situation) {
        int[] wrong = {LEAST, -1, 0, 41, GREATEST};
        for (int n : wrong) {
            Desk desk = made(situation);
            String before = answers(desk, situation);
            String call = told(situation, "begin(" + n + ")");
            Check.due(call, desk.begin(n), Check.ARGUMENT);
            unchanged(call, desk, situation, before);
        }
    }

    private static void wrongWholes(int situation, int n) {
        int[][] wrong = {{LEAST, 5}, {-1, 5}, {n, 5}, {GREATEST, 5}, {0, LEAST}, {0, -1}, {0, 0},
            {0, 1000000000}, {0, GREATEST}, {n - 1, 0}, {n - 1, 1000000000}, {n, 0}, {-1, 0}};
        for (int[] of : wrong) {
            Desk desk = made(situation);
            String before = answers(desk, situation);
            String call = told(situation, "whole(" + of[0] + ", " + of[1] + ")");
            Check.due(call, desk.whole(of[0], of[1]), Check.ARGUMENT);
            unchanged(call, desk, situation, before);
        }
    }

    private static void wrongParts(int situation, int n) {
        int[][] wrong = {{LEAST, 0, 0}, {-1, 0, 0}, {n, 0, 0}, {GREATEST, 0, 0}, {0, LEAST, 0},
            {0, -1, 0}, {0, n + 1, 0}, {0, GREATEST, 0}, {0, 0, LEAST}, {0, 0, -1},
            {0, 0, 1000000000}, {0, 0, GREATEST}, {n - 1, n, -1}, {n - 1, n, 1000000000},
            {n, 0, 999999999}, {0, n + 1, 999999999}, {-1, n, 999999999}, {0, -1, 999999999}};
        for (int[] of : wrong) {
            tryPart(situation, of[0], of[1], of[2], Check.ARGUMENT);
        }
    }

    /** Each part is made one greater than its whole lets it be, and as great as a part can be. */
    private static void sumsAboveTheWhole(int situation, int n) {
        int[] targets = {0, n - 1, n};
        for (int i = 0; i < n; i += n > 3 ? 5 : 1) {
            for (int j : targets) {
                int greatest = (int) made(situation).part(i, j, 0);
                if (greatest < 999999999) {
                    tryPart(situation, i, j, greatest + 1, Check.STATE);
                    tryPart(situation, i, j, 999999999, Check.STATE);
                }
            }
        }
    }

    private static void tryPart(int situation, int i, int j, int v, long due) {
        Desk desk = made(situation);
        String before = answers(desk, situation);
        String call = told(situation, "part(" + i + ", " + j + ", " + v + ")");
        Check.due(call, desk.part(i, j, v), due);
        unchanged(call, desk, situation, before);
    }

    private static String told(int situation, String call) {
        return "situation " + situation + ", " + call;
    }

    /** The answers are those of before, and the chain is that of a desk where nothing threw. */
    private static void unchanged(String call, Desk desk, int situation, String before) {
        Check.due(call + ", then every answer", answers(desk, situation), before);
        Desk quiet = made(situation);
        Check.due(call + ", then solve()", desk.solve(), quiet.solve());
        Check.due(call + ", then the likelihoods", likelihoods(desk, situation),
            likelihoods(quiet, situation));
        Check.due(call + ", then the parts", parts(desk, situation), parts(quiet, situation));
    }

    /** Leaves the last state's likelihood printed, as made() does: asked twice, it is the same. */
    private static String answers(Desk desk, int situation) {
        int n = states(situation);
        StringBuilder all = new StringBuilder(desk.text());
        for (int i = -1; i <= n; i++) {
            add(all, desk.billionths(i));
            add(all, desk.places(i, 0));
            add(all, desk.compare(i, 0));
            add(all, desk.compare(n - 1, i));
        }
        for (int i = -1; i <= n; i++) {
            long length = desk.print(i);
            add(all, length);
            if (length > 0) {
                all.append(' ').append(desk.text());
            }
        }
        return all.append(' ').append(desk.text()).toString();
    }

    private static String likelihoods(Desk desk, int situation) {
        StringBuilder all = new StringBuilder();
        for (int i = 0; i < states(situation); i++) {
            add(all, desk.print(i));
            add(all, desk.billionths(i));
            add(all, desk.places(i, 1));
        }
        return all.toString();
    }

    /** What is left grows by each part that is taken away: so every part is told, and the whole. */
    private static String parts(Desk desk, int situation) {
        int n = states(situation);
        StringBuilder all = new StringBuilder();
        for (int i = 0; i < n; i++) {
            add(all, desk.part(i, i, 0));
            add(all, desk.part(i, n, 0));
            for (int j = 0; j < n && n <= 3; j++) {
                add(all, desk.part(i, j, 0));
            }
        }
        return all.toString();
    }

    private static void add(StringBuilder all, long answer) {
        all.append(' ').append(answer);
    }
}
