import java.util.Random;

/** A chain on paper: a test can put it on as many desks as it likes. */
final class Drawn {
    final int[] wholes;
    final int[][] parts;

    Drawn(int n) {
        wholes = new int[n];
        java.util.Arrays.fill(wholes, 1);
        parts = new int[n][n + 1];
    }

    /** Each state has so many parts at most, and keeps something for nothing: it is never stuck. */
    static Drawn byChance(int seed, int n, int mostWhole, int mostParts) {
        Random random = new Random(seed);
        Drawn chain = new Drawn(n);
        for (int i = 0; i < n; i++) {
            chain.wholes[i] = mostWhole - random.nextInt(1 + mostWhole / 3);
            int left = chain.wholes[i] - 1;
            for (int k = 0; k < mostParts && left > 0; k++) {
                int j = k == 0 ? (i + 1) % (n + 1) : random.nextInt(n + 1);
                int v = 1 + random.nextInt(left);
                if (chain.parts[i][j] == 0) {
                    chain.parts[i][j] = v;
                    left -= v;
                }
            }
        }
        return chain;
    }

    int states() {
        return wholes.length;
    }

    int left(int i) {
        int left = wholes[i];
        for (int v : parts[i]) {
            left -= v;
        }
        return left;
    }

    /** State i gets the place that is told; the goal keeps its own. */
    Drawn renumbered(int[] places) {
        int n = states();
        Drawn other = new Drawn(n);
        for (int i = 0; i < n; i++) {
            other.wholes[places[i]] = wholes[i];
            for (int j = 0; j <= n; j++) {
                other.parts[places[i]][j == n ? n : places[j]] = parts[i][j];
            }
        }
        return other;
    }

    Drawn copy() {
        int[] same = new int[states()];
        for (int i = 0; i < same.length; i++) {
            same[i] = i;
        }
        return renumbered(same);
    }

    Desk onNewDesk() {
        return putOn(new Desk());
    }

    Desk putOn(Desk desk) {
        desk.begin(states());
        for (int i = 0; i < states(); i++) {
            desk.whole(i, wholes[i]);
            for (int j = 0; j <= states(); j++) {
                putPart(desk, i, j);
            }
        }
        return desk;
    }

    /** The last state and the last part first. */
    Desk putBackwardOn(Desk desk) {
        desk.begin(states());
        for (int i = states() - 1; i >= 0; i--) {
            desk.whole(i, wholes[i]);
            for (int j = states(); j >= 0; j--) {
                putPart(desk, i, j);
            }
        }
        return desk;
    }

    private void putPart(Desk desk, int i, int j) {
        if (parts[i][j] > 0) {
            desk.part(i, j, parts[i][j]);
        }
    }
}
