import java.util.Random;

/** Runs of calls by chance (the same ones each time), each answer beside the reference's. */
public final class RandomRunsTest {
    private static final int[] WHOLES = {1, 2, 3, 4, 5, 7, 8, 9, 12, 60, 64, 1000, 1024, 46341,
        999999, 1048576, 536870912, 536870913, 999999937, 999999998, 999999999};
    private static final int[] WRONG = {Integer.MIN_VALUE, -1000000000, -41, -2, -1, 0, 1, 39, 40,
        41, 42, 999999999, 1000000000, Integer.MAX_VALUE};

    public static void main(String[] args) {
        for (int seed = 0; seed < 400; seed++) {
            mixedCalls(seed);
        }
        for (int seed = 0; seed < 120; seed++) {
            denseChain(seed);
        }
        for (int n = 16; n <= 40; n++) {
            heaviestChain(n);
        }
        Check.end();
    }

    private static int pick(Random random, int[] from) {
        return from[random.nextInt(from.length)];
    }

    private static int number(Random random, int bound) {
        return random.nextInt(12) == 0 ? pick(random, WRONG) : random.nextInt(bound);
    }

    private static void mixedCalls(int seed) {
        Random random = new Random(seed);
        Pair pair = new Pair("mixed " + seed);
        int most = 1 + random.nextInt(seed % 10 == 0 ? 40 : 6);
        for (int call = 0; call < 512; call++) {
            int n = pair.states();
            int i = number(random, n);
            switch (random.nextInt(call < 4 ? 1 : 16)) {
                case 0 -> pair.begin(call < 4 ? most : number(random, most) + 1);
                case 1, 2, 3 -> pair.whole(i, random.nextInt(9) == 0 ? pick(random, WRONG)
                    : pick(random, WHOLES));
                case 4, 5, 6, 7 -> pair.part(i, number(random, n + 1), random.nextInt(9) == 0
                    ? pick(random, WRONG) : random.nextInt(1 + pick(random, WHOLES)));
                case 8, 9, 10 -> pair.solve();
                case 11 -> pair.print(i);
                case 12 -> pair.character(number(random, 30));
                case 13 -> pair.compare(i, number(random, n));
                case 14 -> pair.billionths(i);
                default -> pair.places(i, number(random, 2));
            }
        }
        pair.text();
    }

    private static void denseChain(int seed) {
        Random random = new Random(1000 + seed);
        Pair pair = new Pair("dense " + seed);
        int n = 1 + random.nextInt(40);
        pair.begin(n);
        int most = 1 + random.nextInt(n < 16 ? 999999999 : 1 << (480 / n - 1));
        for (int i = 0; i < n; i++) {
            fillRow(pair, random, i, 1 + random.nextInt(most));
        }
        pair.solve();
        pair.askAll();
        pair.whole(n - 1, 3);
        pair.part(n - 1, n, 2);
        pair.solve();
        pair.askAll();
    }

    /** Some rows keep nothing for nothing, some have no goal, some go to themselves nearly. */
    private static void fillRow(Pair pair, Random random, int i, int m) {
        int n = pair.states();
        pair.whole(i, m);
        int left = m;
        int gaps = random.nextInt(4);
        for (int k = 0; k <= n && left > 0; k++) {
            int j = (i + k * 7 + random.nextInt(2)) % (n + 1);
            int v = gaps > 0 && random.nextInt(4) < gaps ? 0 : random.nextInt(1 + left / 2 + 1);
            v = Math.min(v, left);
            pair.part(i, j, 0);
            pair.part(i, j, Math.min(v, 1 + left / 3));
            left -= Math.max(1, Math.min(v, 1 + left / 3));
        }
    }

    /** All weights together come to 480 or just below, with wholes as great as that lets them be. */
    private static void heaviestChain(int n) {
        Random random = new Random(2000 + n);
        Pair pair = new Pair("heaviest " + n);
        pair.begin(n);
        int weight = 480 / n;
        int above = 480 - weight * n;
        for (int i = 0; i < n; i++) {
            int own = Math.min(31, i < above ? weight + 1 : weight);
            fillRow(pair, random, i, Math.min(999999999, 1 << (own - 1)));
        }
        Check.due("the heaviest chain of " + n + " has all weights", pair.weight(), 480);
        pair.solve();
        pair.askAll();
        pair.whole(0, 999999999);
        if (pair.weight() > 480) {
            Check.due("a heavier chain is refused", pair.solve(), 6);
            pair.askAll();
        }
    }
}
