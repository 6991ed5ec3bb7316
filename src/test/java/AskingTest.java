/**
 * The calls whose face names no exception throw none, and only print() changes what can be asked
 * later: every one of them, with arguments from the least to the greatest, in every situation.
 */
public final class AskingTest {
    private static final int[] NUMBERS = {Integer.MIN_VALUE, Integer.MIN_VALUE + 1, -1000000000, -41,
        -2, -1, 0, 1, 2, 3, 15, 16, 39, 40, 41, 281, 301, 104755300, 999999999, Integer.MAX_VALUE};

    public static void main(String[] args) {
        for (int situation = 0; situation < Situations.COUNT; situation++) {
            everyNumber(situation);
            everyPair(situation);
            solveKeepsTheChain(situation);
        }
        Check.end();
    }

    private static boolean isWorkedOut(int situation) {
        return situation == Situations.SOLVED;
    }

    private static boolean isKnown(int situation, int i) {
        return isWorkedOut(situation) && i >= 0 && i < Situations.states(situation);
    }

    private static void everyNumber(int situation) {
        Check.sentence("Promises 6, 7, 9: NONE when there is none, situation " + situation);
        Desk desk = Situations.made(situation);
        String before = Situations.answers(desk, situation);
        String printed = desk.text();
        for (int number : NUMBERS) {
            long letter = number >= 0 && number < printed.length() ? printed.charAt(number) : -1;
            Check.due("character(" + number + ")", desk.character(number), letter);
            if (!isKnown(situation, number)) {
                Check.due("print(" + number + ")", desk.print(number), -1);
                Check.due("billionths(" + number + ")", desk.billionths(number), -1);
            }
        }
        dueAsBefore(desk, situation, before);
    }

    private static void everyPair(int situation) {
        Check.sentence("Promises 8, 10: NONE - 1, NONE, situation " + situation);
        for (int one : NUMBERS) {
            Desk desk = Situations.made(situation);
            String before = Situations.answers(desk, situation);
            for (int other : NUMBERS) {
                String pair = "(" + one + ", " + other + ")";
                if (!isKnown(situation, one) || !isKnown(situation, other)) {
                    Check.due("compare" + pair, desk.compare(one, other), -2);
                }
                if (!isKnown(situation, one) || other < 0 || other > 1) {
                    Check.due("places" + pair, desk.places(one, other), -1);
                }
            }
            dueAsBefore(desk, situation, before);
        }
    }

    private static void solveKeepsTheChain(int situation) {
        Check.sentence("Promise 5: Works out all likelihoods (no more), situation " + situation);
        Desk desk = Situations.made(situation);
        Desk quiet = Situations.made(situation);
        String printed = desk.text();
        long first = desk.solve();
        for (int time = 0; time < 3; time++) {
            Check.due("solve() again", desk.solve(), first);
        }
        Check.due("what was printed", desk.text(), printed);
        Check.due("the parts", Situations.parts(desk, situation),
            Situations.parts(quiet, situation));
    }

    private static void dueAsBefore(Desk desk, int situation, String before) {
        Check.due("every answer once more", Situations.answers(desk, situation), before);
        Check.due("the parts", Situations.parts(desk, situation),
            Situations.parts(Situations.made(situation), situation));
    }
}
