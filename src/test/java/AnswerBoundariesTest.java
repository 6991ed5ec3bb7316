import java.math.BigInteger;

/** A test for each sentence of promises 6 to 10 that names a boundary. */
public final class AnswerBoundariesTest {
    private static final int LEAST = Integer.MIN_VALUE;
    private static final int GREATEST = Integer.MAX_VALUE;
    private static final int MOST = 999999999;
    private static final int BILLION = 1000000000;
    /** With 16 states of this whole all weights come to 480, and no numbers get longer. */
    private static final int HEAVY = 536870912;

    public static void main(String[] args) {
        leastTerms();
        likelihoodsOfNoneAndAll();
        printWithAndWithoutBelow();
        printTheLongest();
        printOfNoState();
        printWhenNothingIsWorkedOut();
        printAgain();
        characterPlaces();
        characterOfTheLatest();
        characterBehindChanges();
        compareAnswers();
        compareNearest();
        compareOfNoState();
        compareWhenNothingIsWorkedOut();
        billionthsOfNoneAndAll();
        billionthsRoundedDown();
        billionthsOfNoState();
        placesOfNone();
        placesAtPowersOfTwo();
        placesOfAnotherWhich();
        placesOfNoState();
        Check.end();
    }

    private static void due(String call, long got, long want) {
        Check.due(call, got, want);
    }

    private static void dueText(Desk desk, int i, String want) {
        due("print(" + i + ")", desk.print(i), want.length());
        Check.due("what print(" + i + ") printed", desk.text(), want);
    }

    private static Desk solved(Desk desk) {
        due("solve()", desk.solve(), 0);
        return desk;
    }

    private static Desk solved(int... fractions) {
        return solved(Desk.toTheGoal(fractions));
    }

    private static BigInteger big(long value) {
        return BigInteger.valueOf(value);
    }

    private static void leastTerms() {
        Check.sentence("Terms: ABOVE and BELOW have no common divisor but 1, BELOW is above 0");
        int[] divisors = {1, 2, 3, 4, 27, 31, 32768, 65537, 99999999};
        for (int d : divisors) {
            Desk desk = solved(7 * d, 10 * d, d, d, 0, d, d, 2 * d);
            dueText(desk, 0, "7/10");
            dueText(desk, 1, "1");
            dueText(desk, 2, "0");
            dueText(desk, 3, "1/2");
        }
        leastTermsOfLongNumbers();
    }

    /** Every whole multiplies what is reckoned with, and little or all of it goes out again. */
    private static void leastTermsOfLongNumbers() {
        Desk sure = solved(Desk.inARow(16, HEAVY, HEAVY));
        dueText(sure, 0, "1");
        dueText(sure, 15, "1");
        Desk half = solved(Desk.inARow(16, HEAVY / 2, HEAVY));
        dueText(half, 0, "1/65536");
        dueText(half, 15, "1/2");
        Desk third = solved(Desk.inARow(15, 333333333, MOST));
        dueText(third, 0, "1/14348907");
        Desk most = solved(Desk.inARow(15, MOST - 1, MOST));
        dueText(most, 1, big(MOST - 1).pow(14) + "/" + big(MOST).pow(14));
    }

    private static void likelihoodsOfNoneAndAll() {
        Check.sentence("Terms: THE LIKELIHOODS (0 and 1)");
        Desk desk = new Desk();
        desk.begin(3);
        desk.part(0, 3, 1);
        desk.whole(1, MOST);
        desk.part(1, 1, MOST - 1);
        desk.part(1, 0, 1);
        desk.whole(2, MOST);
        desk.part(2, 2, MOST - 1);
        solved(desk);
        String[] want = {"1", "1", "0"};
        for (int i = 0; i < 3; i++) {
            dueText(desk, i, want[i]);
            due("billionths(" + i + ")", desk.billionths(i), i < 2 ? BILLION : 0);
            due("places(" + i + ", 0)", desk.places(i, 0), i < 2 ? 1 : 0);
            due("places(" + i + ", 1)", desk.places(i, 1), 1);
            due("compare(" + i + ", 1)", desk.compare(i, 1), i < 2 ? 0 : -1);
            due("compare(1, " + i + ")", desk.compare(1, i), i < 2 ? 0 : 1);
            due("compare(" + i + ", 2)", desk.compare(i, 2), i < 2 ? 1 : 0);
        }
    }

    private static void printWithAndWithoutBelow() {
        Check.sentence("Promise 6: ABOVE in decimal, and, if BELOW is not 1, '/' and it");
        Desk desk = solved(0, 1, 1, 1, 1, 2, 9, 10, 10, 11, 99, 100, 1, MOST, MOST, MOST, 0, MOST);
        String[] want = {"0", "1", "1/2", "9/10", "10/11", "99/100", "1/999999999", "1", "0"};
        for (int i = 0; i < want.length; i++) {
            dueText(desk, i, want[i]);
        }
    }

    private static void printTheLongest() {
        Check.sentence("Promise 6: how many characters (as many as there can be)");
        Desk desk = solved(Desk.inARow(16, HEAVY - 1, HEAVY));
        BigInteger below = big(HEAVY).pow(16);
        BigInteger above = big(HEAVY - 1).pow(16);
        dueText(desk, 0, above + "/" + below);
        due("characters in all", desk.print(0), 281);
        due("character(-1)", desk.character(-1), -1);
        due("character(0)", desk.character(0), above.toString().charAt(0));
        due("character(140)", desk.character(140), '/');
        due("character(280)", desk.character(280), below.toString().charAt(139));
        due("character(281)", desk.character(281), -1);
        due("places of ABOVE", desk.places(0, 0), 464);
        due("places of BELOW", desk.places(0, 1), 465);
    }

    private static void printOfNoState() {
        Check.sentence("Promise 6: NONE, and what was printed stays, when there is no such state");
        Desk desk = solved(2, 7, 5, 9, 1, 1);
        dueText(desk, 1, "5/9");
        int[] wrong = {LEAST, -41, -1, 3, 4, 39, 40, 41, GREATEST};
        for (int i : wrong) {
            due("print(" + i + ")", desk.print(i), -1);
            Check.due("what stays behind print(" + i + ")", desk.text(), "5/9");
        }
        dueText(desk, 0, "2/7");
        dueText(desk, 2, "1");
    }

    private static void printWhenNothingIsWorkedOut() {
        Check.sentence("Promise 6: NONE, and what was printed stays .. nothing is worked out");
        Desk desk = Desk.toTheGoal(2, 7, 5, 9);
        due("print(0) before the first solve", desk.print(0), -1);
        due("character(0)", desk.character(0), -1);
        solved(desk);
        dueText(desk, 0, "2/7");
        desk.part(0, 2, 3);
        due("print(0) behind part", desk.print(0), -1);
        Check.due("what stays", desk.text(), "2/7");
        solved(desk);
        dueText(desk, 0, "3/7");
        desk.whole(0, 7);
        due("print(1) behind whole", desk.print(1), -1);
        Check.due("what stays", desk.text(), "3/7");
        solved(desk);
        dueText(desk, 1, "5/9");
        desk.begin(2);
        due("print(1) behind begin", desk.print(1), -1);
        Check.due("what stays", desk.text(), "5/9");
        desk.part(0, 0, 1);
        due("stuck: solve()", desk.solve(), ChainDesk.STUCK);
        due("print(1) behind a refused solve", desk.print(1), -1);
        Check.due("what stays", desk.text(), "5/9");
    }

    private static void printAgain() {
        Check.sentence("Promise 6: Prints a state's likelihood (after other answers, once more)");
        Desk desk = solved(3, 8, 1, 6);
        for (int time = 0; time < 3; time++) {
            dueText(desk, 0, "3/8");
            due("places(1, 1)", desk.places(1, 1), 3);
            due("billionths(1)", desk.billionths(1), 166666666);
            due("compare(0, 1)", desk.compare(0, 1), 1);
            Check.due("other answers print nothing", desk.text(), "3/8");
            dueText(desk, 0, "3/8");
            dueText(desk, 1, "1/6");
        }
    }

    private static void characterPlaces() {
        Check.sentence("Promise 7: Character k, from 0; NONE when there is none");
        Desk desk = solved(0, 1, 1, 1, 1, 2, 41, 97);
        String[] texts = {"0", "1", "1/2", "41/97"};
        for (int i = 0; i < texts.length; i++) {
            due("print(" + i + ")", desk.print(i), texts[i].length());
            int last = texts[i].length() - 1;
            due("before the first", desk.character(-1), -1);
            for (int k = 0; k <= last; k++) {
                due("character(" + k + ")", desk.character(k), texts[i].charAt(k));
            }
            int[] behind = {last + 1, last + 2, 281, 300, 301, 65536, GREATEST};
            for (int k : behind) {
                due("character(" + k + ") behind the last", desk.character(k), -1);
            }
            int[] before = {-2, -last - 1, -65536, LEAST + 1, LEAST};
            for (int k : before) {
                due("character(" + k + ") before the first", desk.character(k), -1);
            }
            due("the last once more", desk.character(last), texts[i].charAt(last));
        }
    }

    private static void characterOfTheLatest() {
        Check.sentence("Promise 7: of what was printed latest");
        Desk desk = solved(123456, 1000001, 1, 1, 7, 9);
        dueText(desk, 0, "123456/1000001");
        dueText(desk, 1, "1");
        due("behind a shorter print", desk.character(1), -1);
        due("far behind it", desk.character(13), -1);
        dueText(desk, 2, "7/9");
        due("behind it", desk.character(3), -1);
        dueText(desk, 0, "123456/1000001");
        due("behind the longer one", desk.character(14), -1);
    }

    private static void characterBehindChanges() {
        Check.sentence("Promise 7: what was printed latest (stays until the next print)");
        Desk desk = solved(5, 12, 1, 3);
        dueText(desk, 0, "5/12");
        desk.begin(1);
        Check.due("behind begin", desk.text(), "5/12");
        desk.whole(0, 4);
        Check.due("behind whole", desk.text(), "5/12");
        desk.part(0, 1, 1);
        Check.due("behind part", desk.text(), "5/12");
        desk.begin(41);
        desk.whole(1, 1);
        desk.part(0, 0, 4);
        Check.due("behind calls that throw", desk.text(), "5/12");
        solved(desk);
        Check.due("behind solve", desk.text(), "5/12");
        dueText(desk, 0, "1/4");
    }

    private static void compareAnswers() {
        Check.sentence("Promise 8: -1, 0 or 1: less, the same, greater");
        Desk desk = solved(0, 3, 0, MOST, 1, 2, HEAVY / 2, HEAVY, 2, 3, 5, 5, 1, 1);
        int[] order = {0, 0, 1, 1, 2, 3, 3};
        for (int i = 0; i < order.length; i++) {
            for (int other = 0; other < order.length; other++) {
                due("compare(" + i + ", " + other + ")", desk.compare(i, other),
                    Integer.compare(order[i], order[other]));
            }
        }
    }

    /** Near one another, or all but one of them below a billionth. */
    private static void compareNearest() {
        Check.sentence("Promise 8: whether it is less, the same, greater (by ever so little)");
        Desk desk = solved(333333333, MOST, 333333332, MOST - 1, 333333333, MOST - 2);
        due("compare(0, 1)", desk.compare(0, 1), 1);
        due("compare(1, 0)", desk.compare(1, 0), -1);
        due("compare(0, 2)", desk.compare(0, 2), -1);
        due("compare(2, 0)", desk.compare(2, 0), 1);
        Desk row = solved(Desk.inARow(16, 1, HEAVY));
        for (int i = 0; i < 15; i++) {
            due("compare(" + i + ", next)", row.compare(i, i + 1), -1);
            due("compare(next, " + i + ")", row.compare(i + 1, i), 1);
            due("compare(" + i + ", itself)", row.compare(i, i), 0);
        }
        due("billionths of the first", row.billionths(0), 0);
        due("billionths of the last but one", row.billionths(14), 0);
        due("billionths of the last", row.billionths(15), 1);
    }

    private static void compareOfNoState() {
        Check.sentence("Promise 8: NONE - 1 when there is no such state");
        Desk desk = solved(1, 2, 1, 3);
        int[] wrong = {LEAST, -2, -1, 2, 3, 39, 40, GREATEST};
        for (int i : wrong) {
            due("compare(" + i + ", 0)", desk.compare(i, 0), -2);
            due("compare(0, " + i + ")", desk.compare(0, i), -2);
            due("compare(1, " + i + ")", desk.compare(1, i), -2);
            due("compare(" + i + ", itself)", desk.compare(i, i), -2);
        }
        due("compare(1, 0)", desk.compare(1, 0), -1);
        Desk forty = new Desk();
        forty.begin(40);
        forty.part(39, 40, 1);
        solved(forty);
        due("compare(0, 39)", forty.compare(0, 39), -1);
        due("compare(0, 40)", forty.compare(0, 40), -2);
        due("compare(40, 39)", forty.compare(40, 39), -2);
    }

    private static void compareWhenNothingIsWorkedOut() {
        Check.sentence("Promise 8: NONE - 1 when .. nothing is worked out");
        Desk desk = Desk.toTheGoal(1, 2, 1, 3);
        due("before the first solve", desk.compare(0, 1), -2);
        due("no such state either", desk.compare(0, 2), -2);
        solved(desk);
        due("behind solve", desk.compare(0, 1), 1);
        desk.part(0, 2, 1);
        due("behind part", desk.compare(0, 1), -2);
        desk.part(0, 0, 1);
        desk.part(0, 2, 0);
        solved(desk);
        due("behind solve", desk.compare(0, 1), -1);
        desk.whole(1, 3);
        due("behind whole", desk.compare(0, 1), -2);
        solved(desk);
        due("behind solve", desk.compare(0, 1), 0);
        desk.begin(2);
        due("behind begin", desk.compare(0, 1), -2);
    }

    private static void billionthsOfNoneAndAll() {
        Check.sentence("Promise 9: A state's likelihood times 1000000000 (0, 1, near 1)");
        Desk desk = solved(0, 1, 0, MOST, 1, 1, MOST, MOST);
        int[] want = {0, 0, BILLION, BILLION};
        for (int i = 0; i < want.length; i++) {
            due("billionths(" + i + ")", desk.billionths(i), want[i]);
        }
        Desk heavy = solved(Desk.inARow(16, HEAVY, HEAVY));
        due("1, over a long BELOW", heavy.billionths(0), BILLION);
        Desk longest = solved(Desk.inARow(16, HEAVY - 1, HEAVY));
        for (int i = 0; i < 16; i++) {
            BigInteger above = big(HEAVY - 1).pow(16 - i).multiply(big(BILLION));
            long billionths = above.divide(big(HEAVY).pow(16 - i)).longValueExact();
            due("near 1, over a long BELOW, " + i, longest.billionths(i), billionths);
        }
    }

    private static void billionthsRoundedDown() {
        Check.sentence("Promise 9: rounded down");
        Desk exact = Desk.toTheGoal(1, 100000, 1, 10001, 1, 9999);
        toNext(exact, 0, 10000);
        solved(exact);
        due("1/10000 of 1/10001", exact.billionths(0), 9);
        due("1/10001", exact.billionths(1), 99990);
        due("1/9999", exact.billionths(2), 100010);
        oneBillionth();
        Desk desk = solved(1, MOST, 2, MOST, MOST - 1, MOST, 1, 3, 2, 3, 1, 7, 1, 500000000,
            499999999, 500000000, 1, 500000001);
        int[] want = {1, 2, 999999998, 333333333, 666666666, 142857142, 2, 999999998, 1};
        for (int i = 0; i < want.length; i++) {
            due("billionths(" + i + ")", desk.billionths(i), want[i]);
        }
    }

    /** State i goes to the next by 1 / m, and nowhere else. */
    private static void toNext(Desk desk, int i, int m) {
        desk.whole(i, m);
        desk.part(i, i + 1, 1);
    }

    /** Just one billionth, a little below it, and a little below the whole. */
    private static void oneBillionth() {
        int[] last = {99999, 100000, 100001};
        int[] want = {1, 1, 0};
        for (int k = 0; k < 3; k++) {
            Desk desk = Desk.toTheGoal(0, 1, 1, last[k]);
            toNext(desk, 0, 10000);
            solved(desk);
            due("1/10000 of 1/" + last[k], desk.billionths(0), want[k]);
        }
        Desk nearly = Desk.inARow(2, MOST - 1, MOST);
        nearly.part(0, 2, 1);
        solved(nearly);
        due("just below 1", nearly.billionths(0), MOST);
        dueText(nearly, 0, big(MOST).pow(2).subtract(big(MOST - 1)) + "/" + big(MOST).pow(2));
    }

    private static void billionthsOfNoState() {
        Check.sentence("Promise 9: NONE as for print()");
        Desk desk = Desk.toTheGoal(1, 2, 1, 4);
        due("before the first solve", desk.billionths(0), -1);
        solved(desk);
        int[] wrong = {LEAST, -1, 2, 3, 39, 40, GREATEST};
        for (int i : wrong) {
            due("billionths(" + i + ")", desk.billionths(i), -1);
        }
        due("billionths(0)", desk.billionths(0), 500000000);
        due("billionths(1)", desk.billionths(1), 250000000);
        desk.part(1, 2, 1);
        due("behind part", desk.billionths(0), -1);
        solved(desk);
        desk.whole(1, 4);
        due("behind whole", desk.billionths(0), -1);
        solved(desk);
        desk.begin(2);
        due("behind begin", desk.billionths(0), -1);
        desk.part(0, 0, 1);
        desk.solve();
        due("behind a refused solve", desk.billionths(1), -1);
    }

    private static void placesOfNone() {
        Check.sentence("Promise 10: How many binary places (0 for 0)");
        Desk desk = solved(0, 1, 0, MOST, 1, 1, 1, 2);
        int[] above = {0, 0, 1, 1};
        int[] below = {1, 1, 1, 2};
        for (int i = 0; i < above.length; i++) {
            due("places(" + i + ", 0)", desk.places(i, 0), above[i]);
            due("places(" + i + ", 1)", desk.places(i, 1), below[i]);
        }
    }

    /** Each power of two is the first number with one place more; one less has one place less. */
    private static void placesAtPowersOfTwo() {
        Check.sentence("Promise 10: How many binary places ABOVE (0) or BELOW (1) has");
        for (int k = 1; k <= 29; k++) {
            Desk desk = solved((1 << k) - 1, 1 << k, 1 << k, (1 << k) + 1);
            due("places of 2^" + k + " - 1", desk.places(0, 0), k);
            due("places of 2^" + k, desk.places(0, 1), k + 1);
            due("places of 2^" + k + " above", desk.places(1, 0), k + 1);
            due("places of 2^" + k + " + 1", desk.places(1, 1), k + 1);
        }
        Desk row = solved(Desk.inARow(16, 1, HEAVY));
        Desk thick = solved(Desk.inARow(15, MOST - 1, MOST));
        for (int i = 0; i < 16; i++) {
            due("places above 1/2^29, " + i, row.places(i, 0), 1);
            due("places below 1/2^29, " + i, row.places(i, 1), 29 * (16 - i) + 1);
        }
        for (int i = 0; i < 15; i++) {
            due("places above, " + i, thick.places(i, 0), big(MOST - 1).pow(15 - i).bitLength());
            due("places below, " + i, thick.places(i, 1), big(MOST).pow(15 - i).bitLength());
        }
    }

    private static void placesOfAnotherWhich() {
        Check.sentence("Promise 10: NONE .. for another which");
        Desk desk = solved(3, 8, 0, 1);
        int[] wrong = {LEAST, -2, -1, 2, 3, 256, 65536, GREATEST};
        for (int which : wrong) {
            due("places(0, " + which + ")", desk.places(0, which), -1);
            due("places(1, " + which + ")", desk.places(1, which), -1);
            due("places(2, " + which + ")", desk.places(2, which), -1);
        }
        due("places(0, 0)", desk.places(0, 0), 2);
        due("places(0, 1)", desk.places(0, 1), 4);
    }

    private static void placesOfNoState() {
        Check.sentence("Promise 10: NONE as for print()");
        Desk desk = Desk.toTheGoal(1, 2, 3, 4);
        due("before the first solve, ABOVE", desk.places(1, 0), -1);
        due("before the first solve, BELOW", desk.places(1, 1), -1);
        solved(desk);
        int[] wrong = {LEAST, -1, 2, 3, 39, 40, GREATEST};
        for (int i : wrong) {
            due("places(" + i + ", 0)", desk.places(i, 0), -1);
            due("places(" + i + ", 1)", desk.places(i, 1), -1);
        }
        due("places(1, 0)", desk.places(1, 0), 2);
        desk.part(1, 2, 1);
        due("behind part", desk.places(1, 0), -1);
        solved(desk);
        due("the new ABOVE", desk.places(1, 0), 1);
        desk.whole(1, 4);
        due("behind whole", desk.places(1, 1), -1);
        solved(desk);
        due("the new BELOW", desk.places(1, 1), 1);
        desk.begin(2);
        due("behind begin", desk.places(1, 1), -1);
    }
}
