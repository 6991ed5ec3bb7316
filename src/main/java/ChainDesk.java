/**
 * Chains of chance: states that go to one another, to a goal, or to nothing, by fractions of whole
 * numbers; how likely each comes to the goal is worked out exactly, with no fraction on the way.
 *
 * <p>Everything an object needs is made with it: no call makes an object or an array, but for the
 * exceptions that the document asks for.
 */
public final class ChainDesk {
    public static final int NONE = -1;
    public static final int LARGE = 6;
    public static final int STUCK = 9;

    private static final int MOST_STATES = 40;
    private static final int ROW = MOST_STATES + 1;
    private static final int MOST_WHOLE = 999999999;
    private static final int MOST_WEIGHT = 480;
    private static final int BILLION_PLACES = 9;

    private final Chain chain;
    private final Likelihoods likelihoods;
    private final LeastTerms leastTerms;
    private final Paper paper;
    private final Natural rest;
    private boolean workedOut;
    private int reducedState;

    public ChainDesk() {
        chain = new Chain();
        likelihoods = new Likelihoods();
        leastTerms = new LeastTerms();
        paper = new Paper();
        rest = new Natural();
        workedOut = false;
        reducedState = NONE;
    }

    public void begin(int n) throws IllegalArgumentException {
        if (n < 1 || n > MOST_STATES) {
            throw new IllegalArgumentException("a chain has 1 to 40 states");
        }
        chain.restart(n);
        workedOut = false;
    }

    public void whole(int i, int m) throws IllegalArgumentException {
        if (!chain.hasState(i)) {
            throw new IllegalArgumentException("there is no such state");
        }
        if (m < 1 || m > MOST_WHOLE) {
            throw new IllegalArgumentException("a whole is 1 to 999999999");
        }
        chain.resetState(i, m);
        workedOut = false;
    }

    public int part(int i, int j, int v) throws IllegalArgumentException, IllegalStateException {
        if (!chain.hasState(i) || !chain.hasTarget(j)) {
            throw new IllegalArgumentException("there is no such state or target");
        }
        if (v < 0 || v > MOST_WHOLE) {
            throw new IllegalArgumentException("a part is 0 to 999999999");
        }
        int left = chain.leftWith(i, j, v);
        if (left < 0) {
            throw new IllegalStateException("the parts would be above the whole");
        }
        chain.setPart(i, j, v);
        workedOut = false;
        return left;
    }

    public int solve() {
        if (workedOut) {
            return 0;
        }
        if (chain.weight() > MOST_WEIGHT) {
            return LARGE;
        }
        if (chain.isStuck()) {
            return STUCK;
        }
        likelihoods.workOut(chain);
        reducedState = NONE;
        workedOut = true;
        return 0;
    }

    public int print(int i) {
        if (!isKnown(i)) {
            return NONE;
        }
        reduce(i);
        paper.clear();
        rest.copy(leastTerms.above);
        paper.writeDecimal(rest);
        if (!leastTerms.below.isOne()) {
            paper.write('/');
            rest.copy(leastTerms.below);
            paper.writeDecimal(rest);
        }
        return paper.length;
    }

    public int character(int k) {
        if (k < 0 || k >= paper.length) {
            return NONE;
        }
        return paper.text[k];
    }

    public int compare(int i, int other) {
        if (!isKnown(i) || !isKnown(other)) {
            return NONE - 1;
        }
        return likelihoods.aboves[i].order(likelihoods.aboves[other]);
    }

    public int billionths(int i) {
        if (!isKnown(i)) {
            return NONE;
        }
        Natural below = likelihoods.below;
        rest.copy(likelihoods.aboves[i]);
        int answer = 0;
        // The place before the point comes first: a likelihood of 1 has its only digit there.
        for (int place = 0; place <= BILLION_PLACES; place++) {
            answer *= 10;
            for (int digit = 0; digit < 9 && rest.order(below) >= 0; digit++) {
                rest.subtract(below);
                answer++;
            }
            rest.multiply(10);
        }
        return answer;
    }

    public int places(int i, int which) {
        if (!isKnown(i) || which < 0 || which > 1) {
            return NONE;
        }
        reduce(i);
        return which == 0 ? leastTerms.above.bits() : leastTerms.below.bits();
    }

    private boolean isKnown(int i) {
        return workedOut && chain.hasState(i);
    }

    /** Kept until another state is asked for: print() and places() of one state often follow. */
    private void reduce(int i) {
        if (reducedState != i) {
            leastTerms.reduce(likelihoods.aboves[i], likelihoods.below);
            reducedState = i;
        }
    }

    /** The wholes and parts of a chain, and what the parts leave of each whole. */
    private static final class Chain {
        private final int[] wholes = new int[MOST_STATES];
        private final int[] lefts = new int[MOST_STATES];
        private final int[] parts = new int[MOST_STATES * ROW];
        private final boolean[] ends = new boolean[MOST_STATES];
        private int states;

        Chain() {
            states = 1;
            wholes[0] = 1;
            lefts[0] = 1;
        }

        void restart(int n) {
            states = n;
            for (int i = 0; i < n; i++) {
                resetState(i, 1);
            }
        }

        boolean hasState(int i) {
            return i >= 0 && i < states;
        }

        boolean hasTarget(int j) {
            return j >= 0 && j <= states;
        }

        void resetState(int i, int m) {
            wholes[i] = m;
            lefts[i] = m;
            for (int j = 0; j < ROW; j++) {
                parts[i * ROW + j] = 0;
            }
        }

        int leftWith(int i, int j, int v) {
            return lefts[i] + parts[i * ROW + j] - v;
        }

        void setPart(int i, int j, int v) {
            lefts[i] = leftWith(i, j, v);
            parts[i * ROW + j] = v;
        }

        /** All weights together: no determinant of the chain's equations reaches 2 to this. */
        int weight() {
            int sum = 0;
            for (int i = 0; i < states; i++) {
                sum += weightOf(wholes[i]);
            }
            return sum;
        }

        private static int weightOf(int m) {
            int k = 1;
            while (k < 31 && (1L << k) < 2L * m) {
                k++;
            }
            return k;
        }

        /** Each round finds the states that end one step later; n rounds find them all. */
        boolean isStuck() {
            for (int i = 0; i < states; i++) {
                ends[i] = false;
            }
            int found = 0;
            for (int round = 0; round < states && found < states; round++) {
                for (int i = 0; i < states; i++) {
                    if (!ends[i] && canEnd(i)) {
                        ends[i] = true;
                        found++;
                    }
                }
            }
            return found < states;
        }

        private boolean canEnd(int i) {
            if (lefts[i] > 0 || parts[i * ROW + states] > 0) {
                return true;
            }
            for (int j = 0; j < states; j++) {
                if (ends[j] && parts[i * ROW + j] > 0) {
                    return true;
                }
            }
            return false;
        }
    }

    /**
     * All likelihoods of a chain over one common divisor. By Cramer's rule both the divisor and
     * what stands above it are determinants of whole numbers; they are put together from their
     * remainders by as many primes as their size can need.
     */
    private static final class Likelihoods {
        /** Every prime of the table is above 2 to this. */
        private static final int PRIME_BITS = 30;
        /**
         * The determinant stays below 2 to 480, so at most 15 of these divide it (those must be
         * passed over), and 16 of the others are enough: 31 would do.
         */
        private static final int[] PRIMES = {
            2147483647, 2147483629, 2147483587, 2147483579, 2147483563, 2147483549, 2147483543,
            2147483497, 2147483489, 2147483477, 2147483423, 2147483399, 2147483353, 2147483323,
            2147483269, 2147483249, 2147483237, 2147483179, 2147483171, 2147483137, 2147483123,
            2147483077, 2147483069, 2147483059, 2147483053, 2147483033, 2147483029, 2147482951,
            2147482949, 2147482943, 2147482937, 2147482921
        };

        private final Equations equations = new Equations();
        private final Natural[] aboves = new Natural[MOST_STATES];
        private final Natural below = new Natural();
        /** The product of the primes used so far. */
        private final Natural product = new Natural();

        Likelihoods() {
            for (int i = 0; i < MOST_STATES; i++) {
                aboves[i] = new Natural();
            }
        }

        void workOut(Chain chain) {
            clear(chain.states);
            int bits = chain.weight();
            int sure = 0;
            for (int k = 0; k < PRIMES.length && sure < bits; k++) {
                if (equations.answerBy(PRIMES[k], chain)) {
                    join(chain.states);
                    product.multiply(PRIMES[k]);
                    sure += PRIME_BITS;
                }
            }
        }

        private void clear(int states) {
            for (int i = 0; i < states; i++) {
                aboves[i].set(0);
            }
            below.set(0);
            product.set(1);
        }

        /** Brings the newest prime's remainders into the numbers, and leaves the others' there. */
        private void join(int states) {
            Remainders remainders = equations.remainders;
            long inverse = remainders.inverse(product.remainder(remainders.prime));
            joinOne(below, equations.determinant, inverse);
            for (int i = 0; i < states; i++) {
                long above = remainders.times(equations.determinant, equations.answers[i]);
                joinOne(aboves[i], above, inverse);
            }
        }

        private void joinOne(Natural number, long due, long inverse) {
            Remainders remainders = equations.remainders;
            long gap = remainders.minus(due, number.remainder(remainders.prime));
            number.addMultiple(product, remainders.times(gap, inverse));
        }
    }

    /** Reckoning with remainders by one prime, each from 0 to the prime less 1. */
    private static final class Remainders {
        private long prime = 2;

        long minus(long a, long b) {
            return a >= b ? a - b : a - b + prime;
        }

        long times(long a, long b) {
            return plusTimes(0, a, b);
        }

        long plusTimes(long a, long b, long c) {
            return prime > 0 ? (a + b * c) % prime : 0;
        }

        /** By Fermat: a to the prime less 2. */
        long inverse(long a) {
            long answer = 1;
            long power = a;
            for (long left = prime - 2; left > 0; left >>= 1) {
                if ((left & 1) == 1) {
                    answer = times(answer, power);
                }
                power = times(power, power);
            }
            return answer;
        }
    }

    /** The equations of a chain, answered in the remainders by one prime. */
    private static final class Equations {
        private final Remainders remainders = new Remainders();
        private final int[] cells = new int[MOST_STATES * ROW];
        private final long[] answers = new long[MOST_STATES];
        private int states;
        private long determinant;

        /** False when the prime divides the determinant: it tells nothing then. */
        boolean answerBy(int prime, Chain chain) {
            remainders.prime = prime;
            states = chain.states;
            load(chain);
            determinant = 1;
            for (int k = 0; k < states; k++) {
                if (!eliminate(k)) {
                    return false;
                }
            }
            for (int k = states - 1; k >= 0; k--) {
                answers[k] = answerOf(k);
            }
            return true;
        }

        /** Wholes and parts are below every prime, so none has to be divided here. */
        private void load(Chain chain) {
            for (int i = 0; i < states; i++) {
                for (int j = 0; j < states; j++) {
                    long due = i == j ? chain.wholes[i] : 0;
                    cells[i * ROW + j] = (int) remainders.minus(due, chain.parts[i * ROW + j]);
                }
                cells[i * ROW + states] = chain.parts[i * ROW + states];
            }
        }

        private boolean eliminate(int k) {
            int found = pivotRow(k);
            if (found < 0) {
                return false;
            }
            if (found != k) {
                swapRows(found, k);
                determinant = remainders.minus(0, determinant);
            }
            long pivot = cells[k * ROW + k];
            determinant = remainders.times(determinant, pivot);
            scaleRow(k, remainders.inverse(pivot));
            for (int i = k + 1; i < states; i++) {
                if (cells[i * ROW + k] != 0) {
                    clearCell(i, k);
                }
            }
            return true;
        }

        private int pivotRow(int k) {
            for (int i = k; i < states; i++) {
                if (cells[i * ROW + k] != 0) {
                    return i;
                }
            }
            return NONE;
        }

        private void swapRows(int one, int other) {
            for (int j = 0; j <= states; j++) {
                int kept = cells[one * ROW + j];
                cells[one * ROW + j] = cells[other * ROW + j];
                cells[other * ROW + j] = kept;
            }
        }

        private void scaleRow(int k, long factor) {
            for (int j = k; j <= states; j++) {
                cells[k * ROW + j] = (int) remainders.times(cells[k * ROW + j], factor);
            }
        }

        /** The dearest loop of all: the prime is looked at once, not at each step. */
        private void clearCell(int i, int k) {
            long prime = remainders.prime;
            if (prime < 1) {
                return;
            }
            int to = i * ROW;
            int from = k * ROW;
            long factor = prime - cells[to + k];
            cells[to + k] = 0;
            for (int j = k + 1; j <= states; j++) {
                cells[to + j] = (int) ((cells[to + j] + factor * cells[from + j]) % prime);
            }
        }

        private long answerOf(int k) {
            long sum = cells[k * ROW + states];
            for (int j = k + 1; j < states; j++) {
                long opposite = remainders.minus(0, cells[k * ROW + j]);
                sum = remainders.plusTimes(sum, opposite, answers[j]);
            }
            return sum;
        }
    }

    /** A fraction brought to least terms. */
    private static final class LeastTerms {
        private final Natural above = new Natural();
        private final Natural below = new Natural();
        private final Natural one = new Natural();
        private final Natural other = new Natural();

        void reduce(Natural top, Natural bottom) {
            above.copy(top);
            below.copy(bottom);
            if (above.isZero() || below.isZero()) {
                below.set(1);
                return;
            }
            dropCommonTwos();
            Natural divisor = oddCommonDivisor();
            above.divideByOddDivisor(divisor);
            below.divideByOddDivisor(divisor);
        }

        private void dropCommonTwos() {
            for (int k = 0; k < Natural.BITS && above.isEven() && below.isEven(); k++) {
                int twos = Math.min(above.lowTwos(), below.lowTwos());
                above.shiftRight(twos);
                below.shiftRight(twos);
            }
        }

        /** Each step takes at least one binary place away from the two numbers together. */
        private Natural oddCommonDivisor() {
            one.copy(above);
            other.copy(below);
            one.dropTwos();
            other.dropTwos();
            for (int k = 0; k < 2 * Natural.BITS; k++) {
                int order = one.order(other);
                if (order == 0) {
                    break;
                }
                Natural greater = order > 0 ? one : other;
                Natural less = order > 0 ? other : one;
                greater.subtract(less);
                greater.dropTwos();
            }
            return one;
        }
    }

    /** A whole number not below 0, in limbs of 31 binary places, the lowest first. */
    private static final class Natural {
        /** 16 primes below 2 to 31 are multiplied at most. */
        private static final int LIMBS = 16;
        private static final int LIMB_BITS = 31;
        private static final int MASK = 0x7fffffff;
        private static final int BITS = LIMBS * LIMB_BITS;

        private final int[] limbs = new int[LIMBS];

        void set(int value) {
            for (int k = 1; k < LIMBS; k++) {
                limbs[k] = 0;
            }
            limbs[0] = value;
        }

        void copy(Natural from) {
            for (int k = 0; k < LIMBS; k++) {
                limbs[k] = from.limbs[k];
            }
        }

        boolean isZero() {
            return limbs[0] == 0 && upperIsZero();
        }

        boolean isOne() {
            return limbs[0] == 1 && upperIsZero();
        }

        private boolean upperIsZero() {
            for (int k = 1; k < LIMBS; k++) {
                if (limbs[k] != 0) {
                    return false;
                }
            }
            return true;
        }

        boolean isEven() {
            return (limbs[0] & 1) == 0;
        }

        /** -1, 0 or 1: whether this is less than the other, the same, greater. */
        int order(Natural other) {
            for (int k = LIMBS - 1; k >= 0; k--) {
                if (limbs[k] != other.limbs[k]) {
                    return limbs[k] < other.limbs[k] ? -1 : 1;
                }
            }
            return 0;
        }

        /** How many binary places it has; 0 for 0. */
        int bits() {
            for (int k = LIMBS - 1; k >= 0; k--) {
                if (limbs[k] != 0) {
                    return k * LIMB_BITS + bitsOf(limbs[k]);
                }
            }
            return 0;
        }

        private static int bitsOf(int limb) {
            int count = 0;
            for (int left = limb; left > 0; left >>= 1) {
                count++;
            }
            return count;
        }

        void addMultiple(Natural other, long factor) {
            long carry = 0;
            for (int k = 0; k < LIMBS; k++) {
                long sum = limbs[k] + other.limbs[k] * factor + carry;
                limbs[k] = (int) (sum & MASK);
                carry = sum >>> LIMB_BITS;
            }
        }

        void multiply(long factor) {
            long carry = 0;
            for (int k = 0; k < LIMBS; k++) {
                long product = limbs[k] * factor + carry;
                limbs[k] = (int) (product & MASK);
                carry = product >>> LIMB_BITS;
            }
        }

        /** The other must not be greater. */
        void subtract(Natural other) {
            int borrow = 0;
            for (int k = 0; k < LIMBS; k++) {
                int difference = limbs[k] - other.limbs[k] - borrow;
                limbs[k] = difference & MASK;
                borrow = difference >>> LIMB_BITS;
            }
        }

        long remainder(long divisor) {
            if (divisor < 1) {
                return 0;
            }
            long left = 0;
            for (int k = LIMBS - 1; k >= 0; k--) {
                left = ((left << LIMB_BITS) + limbs[k]) % divisor;
            }
            return left;
        }

        /** Divides by ten, and answers the digit that is left. */
        int takeDigit() {
            long left = 0;
            for (int k = LIMBS - 1; k >= 0; k--) {
                long part = (left << LIMB_BITS) + limbs[k];
                limbs[k] = (int) (part / 10);
                left = part % 10;
            }
            return (int) left;
        }

        /** How often two divides the lowest limb; a limb of 0 counts as all its places. */
        int lowTwos() {
            int limb = limbs[0];
            return limb == 0 ? LIMB_BITS : Integer.bitCount((limb & -limb) - 1);
        }

        /** By a count of 0 to 31 places. */
        void shiftRight(int count) {
            for (int k = 0; k < LIMBS; k++) {
                int next = k + 1 < LIMBS ? limbs[k + 1] : 0;
                limbs[k] = (limbs[k] >>> count) | ((next << (LIMB_BITS - count)) & MASK);
            }
        }

        /** A number of 0 stays as it is. */
        void dropTwos() {
            for (int k = 0; k <= LIMBS && isEven(); k++) {
                shiftRight(lowTwos());
            }
        }

        /**
         * The divisor must be odd and leave no rest: then each limb of the answer follows from the
         * lowest limb that is left, with no guess.
         */
        void divideByOddDivisor(Natural divisor) {
            int inverse = inverseOfOdd(divisor.limbs[0]);
            for (int k = 0; k < LIMBS; k++) {
                int answer = (limbs[k] * inverse) & MASK;
                subtractMultiple(divisor, answer, k);
                limbs[k] = answer;
            }
        }

        private void subtractMultiple(Natural other, long factor, int start) {
            long carry = 0;
            for (int k = start; k < LIMBS; k++) {
                long product = other.limbs[k - start] * factor + carry;
                int difference = limbs[k] - (int) (product & MASK);
                limbs[k] = difference & MASK;
                carry = (product >>> LIMB_BITS) + (difference >>> LIMB_BITS);
            }
        }

        /** Each step doubles the low places that are right; an odd number starts with three. */
        private static int inverseOfOdd(int odd) {
            int answer = odd;
            for (int step = 0; step < 4; step++) {
                answer *= 2 - odd * answer;
            }
            return answer;
        }
    }

    /** What was printed latest. */
    private static final class Paper {
        /** 2 to 496 has 150 digits. */
        private static final int MOST_DIGITS = 150;
        private static final int SIZE = 2 * MOST_DIGITS + 1;

        private final char[] text = new char[SIZE];
        private int length;

        void clear() {
            length = 0;
        }

        void write(char letter) {
            if (length < SIZE) {
                text[length] = letter;
                length++;
            }
        }

        /** The number is used up: it is 0 afterwards. */
        void writeDecimal(Natural number) {
            int start = length;
            for (int k = 0; k < MOST_DIGITS; k++) {
                write((char) ('0' + number.takeDigit()));
                if (number.isZero()) {
                    break;
                }
            }
            reverseFrom(start);
        }

        private void reverseFrom(int start) {
            int low = start;
            int high = length - 1;
            while (low < high) {
                char kept = text[low];
                text[low] = text[high];
                text[high] = kept;
                low++;
                high--;
            }
        }
    }
}
