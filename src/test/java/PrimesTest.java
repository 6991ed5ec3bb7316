import java.math.BigInteger;

/**
 * The class works in remainders by the greatest primes below 2 to 31. Chance never meets a chain
 * whose determinant, or whose first steps, such a prime divides: these chains are made for it.
 */
public final class PrimesTest {
    public static void main(String[] args) {
        primesThatDivideTheDeterminant();
        primesThatDivideAFirstStep();
        Check.end();
    }

    private static int[] greatestPrimes(int count) {
        int[] primes = new int[count];
        int value = Integer.MAX_VALUE;
        for (int k = 0; k < count; value--) {
            if (BigInteger.valueOf(value).isProbablePrime(60)) {
                primes[k] = value;
                k++;
            }
        }
        return primes;
    }

    /** States i and i + 1 go to one another so that their determinant is the prime itself. */
    private static void block(Pair pair, int i, int prime) {
        int first = 32768;
        int second = 65536;
        long over = (long) first * second - prime;
        int forth = 1;
        for (int v = 2; v < 30000; v++) {
            if (over % v == 0 && over / v < 60000) {
                forth = v;
            }
        }
        pair.whole(i, first);
        pair.whole(i + 1, second);
        pair.part(i, i + 1, forth);
        pair.part(i + 1, i, (int) (over / forth));
    }

    /**
     * No more than 14 can: the determinant is not above the wholes multiplied, which are 2 to 464
     * at most (16 of 2 to 29), and 15 of the primes come near to 2 to 465.
     */
    private static void primesThatDivideTheDeterminant() {
        int[] primes = greatestPrimes(14);
        for (int count = 1; count <= primes.length; count++) {
            for (int linked = 0; linked < 2; linked++) {
                Pair pair = new Pair(count + " primes in the determinant, linked " + linked);
                pair.begin(2 * count);
                for (int k = 0; k < count; k++) {
                    block(pair, 2 * k, primes[k]);
                    pair.part(2 * k, 2 * count, 7 + k);
                    if (linked == 1 && k > 0) {
                        pair.part(2 * k, 2 * k - 1, 5);
                    }
                }
                Check.due("a chain for primes is solved", pair.solve(), 0);
                pair.askAll();
                if (count == primes.length) {
                    boolean needed = pair.weight() > 15 * 30;
                    Check.due("16 primes are needed beside these", needed ? 1 : 0, 1);
                }
            }
        }
    }

    private static void primesThatDivideAFirstStep() {
        int[] primes = greatestPrimes(10);
        for (int count = 1; count <= primes.length; count++) {
            Pair pair = new Pair(count + " primes in first steps");
            pair.begin(3 * count);
            for (int k = 0; k < count; k++) {
                int i = 3 * k;
                block(pair, i, primes[k]);
                pair.whole(i + 2, 9);
                pair.part(i + 2, i, 3);
                pair.part(i + 2, 3 * count, 5);
                pair.part(i + 1, i + 2, 11);
                pair.part(i, 3 * count, 2);
            }
            Check.due("a chain for first steps is solved", pair.solve(), 0);
            pair.askAll();
        }
    }
}
