import java.math.BigInteger;

/**
 * A test for each sentence that names no boundary: what the likelihoods are, what a change changes
 * and what it leaves, and that an object is one by itself. No reference is asked here: what the
 * desk printed is put into the document's own equations.
 */
public final class SentencesTest {
    private static final BigInteger BILLION = BigInteger.valueOf(1000000000);
    /** The number of changes that changed() knows. */
    private static final int CHANGES = 5;

    public static void main(String[] args) {
        likelihoodsFulfilTheEquations();
        theOnlyLikelihoodsThereAre();
        renumberedStates();
        chancesAreFractions();
        aChangeLeavesTheRest();
        objectsSideBySide();
        exampleOfTheReadme();
        Check.end();
    }

    private static void due(String call, long got, long want) {
        Check.due(call, got, want);
    }

    private static Drawn[] chains() {
        return new Drawn[] {
            Drawn.byChance(1, 1, 999999999, 2),
            Drawn.byChance(2, 2, 999999999, 3),
            Drawn.byChance(3, 5, 12, 6),
            Drawn.byChance(4, 15, 999999999, 8),
            Drawn.byChance(5, 16, 536870912, 8),
            Drawn.byChance(6, 30, 32768, 5),
            Drawn.byChance(7, 40, 2048, 4),
            Drawn.byChance(8, 40, 3, 4),
        };
    }

    /** The states of a chain that is on the desk, as it prints them: a desk for each of them. */
    private static String[] texts(Drawn chain) {
        String[] texts = new String[chain.states()];
        for (int i = 0; i < texts.length; i++) {
            Desk desk = chain.onNewDesk();
            due("solve()", desk.solve(), 0);
            long length = desk.print(i);
            texts[i] = desk.text();
            due("print(" + i + ")", length, texts[i].length());
        }
        return texts;
    }

    private static BigInteger above(String text) {
        return new BigInteger(text.split("/")[0]);
    }

    private static BigInteger below(String text) {
        String[] both = text.split("/");
        return both.length == 1 ? BigInteger.ONE : new BigInteger(both[1]);
    }

    private static void likelihoodsFulfilTheEquations() {
        for (Drawn chain : chains()) {
            String[] texts = texts(chain);
            Check.sentence("Terms: told in LEAST TERMS; Promise 6: in decimal");
            for (int i = 0; i < texts.length; i++) {
                dueLeastTerms(texts[i], i);
            }
            Check.sentence("Terms: M(i) x(i) = a(i,0) x(0) + .. + a(i,n-1) x(n-1) + a(i,n)");
            for (int i = 0; i < texts.length; i++) {
                dueEquation(chain, texts, i);
            }
            Check.sentence("Promises 8, 9, 10: of a state's likelihood");
            dueOtherAnswers(chain, texts);
        }
    }

    private static void dueLeastTerms(String text, int i) {
        BigInteger above = above(text);
        BigInteger below = below(text);
        due("the common divisor, state " + i, above.gcd(below).bitLength(), 1);
        due("BELOW above 0, state " + i, below.signum(), 1);
        String plain = below.equals(BigInteger.ONE) ? above.toString() : above + "/" + below;
        Check.due("its characters, state " + i, text, plain);
    }

    private static void dueEquation(Drawn chain, String[] texts, int i) {
        int n = texts.length;
        BigInteger common = BigInteger.ONE;
        for (String text : texts) {
            common = common.multiply(below(text)).divide(common.gcd(below(text)));
        }
        BigInteger right = common.multiply(BigInteger.valueOf(chain.parts[i][n]));
        for (int j = 0; j < n; j++) {
            BigInteger x = above(texts[j]).multiply(common.divide(below(texts[j])));
            right = right.add(x.multiply(BigInteger.valueOf(chain.parts[i][j])));
        }
        BigInteger x = above(texts[i]).multiply(common.divide(below(texts[i])));
        BigInteger left = x.multiply(BigInteger.valueOf(chain.wholes[i]));
        Check.due("both sides, state " + i, left.toString(), right.toString());
    }

    private static void dueOtherAnswers(Drawn chain, String[] texts) {
        Desk desk = chain.onNewDesk();
        due("solve()", desk.solve(), 0);
        int n = texts.length;
        for (int i = 0; i < n; i++) {
            BigInteger above = above(texts[i]);
            BigInteger below = below(texts[i]);
            due("places(" + i + ", 0)", desk.places(i, 0), above.bitLength());
            due("places(" + i + ", 1)", desk.places(i, 1), below.bitLength());
            BigInteger billionths = above.multiply(BILLION).divide(below);
            due("billionths(" + i + ")", desk.billionths(i), billionths.longValueExact());
            int other = (i * 7 + 3) % n;
            int order = above.multiply(below(texts[other]))
                .compareTo(above(texts[other]).multiply(below));
            due("compare(" + i + ", " + other + ")", desk.compare(i, other), order);
            due("compare(" + other + ", " + i + ")", desk.compare(other, i), -order);
        }
    }

    /** Neither the order of the calls nor what the desk did before them has a say. */
    private static void theOnlyLikelihoodsThereAre() {
        Check.sentence("Terms: THE LIKELIHOODS are the numbers x(i), the only ones there are");
        for (Drawn chain : chains()) {
            int n = chain.states();
            Desk desk = chain.onNewDesk();
            desk.solve();
            Desk used = new Desk();
            used.begin(40);
            used.whole(39, 77);
            used.part(39, 40, 76);
            used.solve();
            used.print(39);
            used.begin(3);
            used.part(2, 2, 1);
            used.solve();
            chain.putBackwardOn(used);
            due("solve()", used.solve(), 0);
            for (int i = 0; i < n; i++) {
                due("print(" + i + ")", used.print(i), desk.print(i));
                due("a character", used.character(i * 5), desk.character(i * 5));
                due("billionths(" + i + ")", used.billionths(i), desk.billionths(i));
                due("places(" + i + ", 1)", used.places(i, 1), desk.places(i, 1));
            }
        }
    }

    private static void renumberedStates() {
        Check.sentence("Terms: with chance a(i,j) / M(i) it goes to state j (whatever its number)");
        Drawn chain = Drawn.byChance(9, 7, 1000, 5);
        String[] texts = texts(chain);
        int[][] all = {{6, 5, 4, 3, 2, 1, 0}, {1, 2, 3, 4, 5, 6, 0}, {3, 0, 6, 2, 5, 1, 4}};
        for (int[] places : all) {
            String[] others = texts(chain.renumbered(places));
            for (int i = 0; i < texts.length; i++) {
                Check.due("state " + i + " at " + places[i], others[places[i]], texts[i]);
            }
        }
    }

    private static void chancesAreFractions() {
        Check.sentence("Terms: with chance a(i,j) / M(i) (the fraction alone has a say)");
        Drawn chain = Drawn.byChance(10, 4, 50, 5);
        String[] texts = texts(chain);
        int[] factors = {2, 3, 1000, 65536, 19999999};
        for (int factor : factors) {
            Drawn greater = chain.copy();
            for (int i = 0; i < 4; i += 2) {
                greater.wholes[i] *= factor;
                for (int j = 0; j <= 4; j++) {
                    greater.parts[i][j] *= factor;
                }
            }
            String[] others = texts(greater);
            for (int i = 0; i < 4; i++) {
                Check.due("state " + i + " by " + factor, others[i], texts[i]);
            }
        }
    }

    private static void aChangeLeavesTheRest() {
        Check.sentence("Promise 3: State i's M .. its parts; Promise 4: Part a(i,j); (no other)");
        Drawn chain = Drawn.byChance(11, 5, 9999, 40);
        for (int change = 0; change < CHANGES; change++) {
            for (int i = 0; i < 5; i++) {
                Drawn want = chain.copy();
                Desk upward = changed(chain.onNewDesk(), want, change, i);
                Desk downward = changed(chain.onNewDesk(), want, change, i);
                for (int k = 0; k < 5; k++) {
                    dueRow("change " + change + ", state " + i, upward, want, k, 1);
                    dueRow("change " + change + ", state " + i, downward, want, k, -1);
                }
            }
        }
    }

    /** Changes the chain on the desk and the one on paper alike. */
    private static Desk changed(Desk desk, Drawn want, int change, int i) {
        if (change == 0) {
            due("solve()", desk.solve(), 0);
        } else if (change == 1) {
            desk.whole(i, 12345);
            want.wholes[i] = 12345;
            want.parts[i] = new int[want.states() + 1];
        } else {
            int j = (i + change) % (want.states() + 1);
            int v = change == 2 ? 0 : 1;
            want.parts[i][j] = v;
            due("what is left", desk.part(i, j, v), want.left(i));
        }
        return desk;
    }

    /**
     * Takes away part after part, from the first or from the last: what is left tells each but the
     * one that goes first, so a row is read both ways.
     */
    private static void dueRow(String when, Desk desk, Drawn want, int i, int step) {
        int n = want.states();
        int left = want.left(i);
        for (int k = 0; k <= n; k++) {
            int j = step > 0 ? k : n - k;
            left += want.parts[i][j];
            due(when + ": part(" + i + ", " + j + ", 0)", desk.part(i, j, 0), left);
        }
    }

    private static void objectsSideBySide() {
        Check.sentence("Promise 1: A new object (nothing of another one)");
        Desk one = Desk.toTheGoal(1, 3, 2, 3);
        Desk other = Desk.toTheGoal(4, 5);
        due("one.solve()", one.solve(), 0);
        due("other.print(0)", other.print(0), -1);
        due("other.solve()", other.solve(), 0);
        due("one.print(1)", one.print(1), 3);
        due("other.character(0)", other.character(0), -1);
        due("other.print(0)", other.print(0), 3);
        Desk third = new Desk();
        due("third.print(0)", third.print(0), -1);
        due("third.character(0)", third.character(0), -1);
        Check.due("what one printed", one.text(), "2/3");
        Check.due("what the other printed", other.text(), "4/5");
        third.begin(40);
        third.part(0, 0, 1);
        due("third.solve()", third.solve(), ChainDesk.STUCK);
        due("one.places(0, 1)", one.places(0, 1), 2);
        due("other.places(0, 1)", other.places(0, 1), 3);
        due("one.places(1, 0)", one.places(1, 0), 2);
        due("one.compare(0, 1)", one.compare(0, 1), -1);
        due("other.compare(0, 1)", other.compare(0, 1), -2);
        due("other.billionths(0)", other.billionths(0), 800000000);
    }

    /** The calls that README.md shows, with the answers that it tells. */
    private static void exampleOfTheReadme() {
        Check.sentence("README.md");
        Desk desk = new Desk();
        due("begin(2)", desk.begin(2), 0);
        due("whole(0, 7)", desk.whole(0, 7), 0);
        due("part(0, 0, 2)", desk.part(0, 0, 2), 5);
        due("part(0, 1, 3)", desk.part(0, 1, 3), 2);
        due("whole(1, 2)", desk.whole(1, 2), 0);
        due("part(1, 2, 1)", desk.part(1, 2, 1), 1);
        due("solve()", desk.solve(), 0);
        due("print(0)", desk.print(0), 4);
        Check.due("what was printed", desk.text(), "3/10");
        due("character(0)", desk.character(0), '3');
        due("compare(0, 1)", desk.compare(0, 1), -1);
        due("billionths(0)", desk.billionths(0), 300000000);
        due("places(0, 1)", desk.places(0, 1), 4);
    }
}
