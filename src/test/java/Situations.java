/** The situations that an object can be in, and all that it can be asked in each. */
final class Situations {
    static final int NEW = 0;
    static final int BUILT = 1;
    static final int SOLVED = 2;
    static final int BEGUN_AGAIN = 3;
    static final int WHOLE_AGAIN = 4;
    static final int PART_AGAIN = 5;
    static final int STUCK = 6;
    static final int LARGE = 7;
    static final int COUNT = 8;

    private Situations() {
    }

    static int states(int situation) {
        if (situation == NEW) {
            return 1;
        }
        return situation == LARGE ? 16 : 3;
    }

    /** The last state's likelihood is what was printed, but for the first two situations. */
    static Desk made(int situation) {
        if (situation == LARGE) {
            return large();
        }
        Desk desk = new Desk();
        if (situation == NEW) {
            return desk;
        }
        threeStates(desk);
        if (situation == BUILT) {
            return desk;
        }
        done("solve()", desk.solve(), 0);
        done("print(2)", desk.print(2), 21);
        if (situation == BEGUN_AGAIN) {
            done("begin(3)", desk.begin(3), 0);
        } else if (situation == WHOLE_AGAIN) {
            done("whole(1, 5)", desk.whole(1, 5), 0);
        } else if (situation == PART_AGAIN) {
            done("part(1, 0, 1)", desk.part(1, 0, 1), 0);
        } else if (situation == STUCK) {
            done("whole(2, 9)", desk.whole(2, 9), 0);
            done("part(2, 2, 9)", desk.part(2, 2, 9), 0);
            done("solve()", desk.solve(), ChainDesk.STUCK);
        }
        return desk;
    }

    /** A situation is only what its name says if the calls that make it do what they should. */
    private static void done(String call, long got, long want) {
        Check.due("on the way to a situation: " + call, got, want);
    }

    private static void threeStates(Desk desk) {
        desk.begin(3);
        desk.whole(0, 7);
        done("part(0, 0, 2)", desk.part(0, 0, 2), 5);
        done("part(0, 1, 3)", desk.part(0, 1, 3), 2);
        desk.whole(1, 999999999);
        done("part(1, 3, 999999998)", desk.part(1, 3, 999999998), 1);
        desk.whole(2, 6);
        done("part(2, 0, 1)", desk.part(2, 0, 1), 5);
        done("part(2, 3, 5)", desk.part(2, 3, 5), 0);
    }

    private static Desk large() {
        Desk desk = Desk.inARow(16, 1, 8);
        done("solve()", desk.solve(), 0);
        done("print(15)", desk.print(15), 3);
        for (int i = 0; i < 16; i++) {
            done("whole(i, 536870913)", desk.whole(i, 536870913), 0);
            done("part(i, i, 4)", desk.part(i, i, 4), 536870909);
        }
        done("solve()", desk.solve(), ChainDesk.LARGE);
        return desk;
    }

    /** Leaves the last state's likelihood printed, as made() does: asked twice, it is the same. */
    static String answers(Desk desk, int situation) {
        int n = states(situation);
        StringBuilder all = new StringBuilder(desk.text());
        for (int i = -1; i <= n; i++) {
            add(all, desk.billionths(i));
            add(all, desk.places(i, 0));
            add(all, desk.compare(i, 0));
            add(all, desk.compare(n - 1, i));
        }
        for (int i = -1; i <= n; i++) {
            long length = desk.print(i);
            add(all, length);
            if (length > 0) {
                all.append(' ').append(desk.text());
            }
        }
        return all.append(' ').append(desk.text()).toString();
    }

    static String likelihoods(Desk desk, int situation) {
        StringBuilder all = new StringBuilder();
        for (int i = 0; i < states(situation); i++) {
            add(all, desk.print(i));
            add(all, desk.billionths(i));
            add(all, desk.places(i, 1));
        }
        return all.toString();
    }

    /** What is left grows by each part that is taken away: so every part is told, and the whole. */
    static String parts(Desk desk, int situation) {
        int n = states(situation);
        StringBuilder all = new StringBuilder();
        for (int i = 0; i < n; i++) {
            add(all, desk.part(i, i, 0));
            add(all, desk.part(i, n, 0));
            for (int j = 0; j < n && n <= 3; j++) {
                add(all, desk.part(i, j, 0));
            }
        }
        return all.toString();
    }

    private static void add(StringBuilder all, long answer) {
        all.append(' ').append(answer);
    }
}
