/**
 * A second ring, written from the document in another way, for RandomRunsTest to compare with: it
 * keeps what each stripe ought to hold beside what lies on the drives, so it solves no parities.
 */
final class Model {
    final int p;
    final int stripes;
    final int[][][] due;
    final int[][][] there;
    final boolean[] lost;
    final boolean[][] fresh;
    final boolean[] marked;
    boolean power = true;
    long left = Long.MAX_VALUE;

    Model(int drives, int stripes) {
        p = drives <= 5 ? 5 : drives <= 7 ? 7 : drives <= 11 ? 11 : 13;
        this.stripes = stripes < 1 ? 1 : stripes > 4 ? 4 : stripes;
        due = new int[this.stripes][p][p];
        there = new int[this.stripes][p][p];
        lost = new boolean[p];
        fresh = new boolean[this.stripes][p];
        marked = new boolean[this.stripes];
    }

    int blocks() {
        return stripes * p * (p - 2);
    }

    boolean misses(int d, int s) {
        return lost[d] || fresh[s][d];
    }

    int missing(int s) {
        int n = 0;
        for (int d = 0; d < p; d++) {
            n += misses(d, s) ? 1 : 0;
        }
        return n;
    }

    boolean isNew(int d) {
        for (int s = 0; s < stripes; s++) {
            if (fresh[s][d]) {
                return true;
            }
        }
        return false;
    }

    int count(int what) {
        int gone = 0;
        int partly = 0;
        for (int d = 0; d < p; d++) {
            gone += lost[d] ? 1 : 0;
            partly += lost[d] || isNew(d) ? 1 : 0;
        }
        return what == 0 ? p : what == 1 ? stripes : what == 2 ? blocks() : what == 3 ? gone : what == 4 ? partly : -1;
    }

    boolean turn() {
        if (left == 0) {
            power = false;
            return false;
        }
        left--;
        return true;
    }

    static void parities(int[][] w, int p) {
        for (int i = 0; i < p; i++) {
            w[i][p - 2] = 0;
            w[i][p - 1] = 0;
            for (int k = 0; k <= p - 3; k++) {
                w[i][p - 2] ^= w[(i + k + 2) % p][k];
                w[i][p - 1] ^= w[(i - k - 2 + 2 * p) % p][k];
            }
        }
    }

    int write(int b, int v) {
        if (!power || b < 0 || b >= blocks()) {
            return -1;
        }
        int s = b / (p * (p - 2));
        int k = b / p % (p - 2);
        int d = b % p;
        if (missing(s) > 2 || marked[s] && missing(s) > 0) {
            return -1;
        }
        due[s][d][k] = v;
        parities(due[s], p);
        marked[s] = true;
        int[][] targets = {{d, k}, {(d - k - 2 + 2 * p) % p, p - 2}, {(d + k + 2) % p, p - 1}};
        for (int[] t : targets) {
            if (!misses(t[0], s)) {
                if (!turn()) {
                    return 0;
                }
                there[s][t[0]][t[1]] = due[s][t[0]][t[1]];
            }
        }
        marked[s] = false;
        return 1;
    }

    long read(int b) {
        if (b < 0 || b >= blocks()) {
            return Check.NO_SUCH;
        }
        if (!power) {
            return Check.OFF;
        }
        int s = b / (p * (p - 2));
        int k = b / p % (p - 2);
        int d = b % p;
        if (!misses(d, s)) {
            return there[s][d][k];
        }
        return marked[s] || missing(s) > 2 ? Check.NO_SUCH : due[s][d][k];
    }

    boolean lose(int d) {
        if (d < 0 || d >= p || lost[d]) {
            return false;
        }
        lost[d] = true;
        for (int s = 0; s < stripes; s++) {
            fresh[s][d] = false;
            there[s][d] = new int[p];
        }
        return true;
    }

    boolean replace(int d) {
        if (!power || d < 0 || d >= p || !lost[d]) {
            return false;
        }
        lost[d] = false;
        for (int s = 0; s < stripes; s++) {
            fresh[s][d] = true;
        }
        return true;
    }

    int rebuild(int n) {
        if (!power) {
            return -1;
        }
        int done = 0;
        for (int s = 0; s < stripes; s++) {
            boolean any = false;
            for (int d = 0; d < p; d++) {
                any |= fresh[s][d];
            }
            if (!any || marked[s] || missing(s) > 2 || done >= n) {
                continue;
            }
            for (int d = 0; d < p; d++) {
                for (int k = 0; k < p && fresh[s][d]; k++) {
                    if (!turn()) {
                        return done;
                    }
                    there[s][d][k] = due[s][d][k];
                }
            }
            fresh[s] = new boolean[p];
            done++;
        }
        return done;
    }

    boolean cut(int n) {
        if (!power || n < 0) {
            return false;
        }
        left = n;
        return true;
    }

    int start() {
        if (power) {
            return -1;
        }
        power = true;
        left = Long.MAX_VALUE;
        int n = 0;
        for (int s = 0; s < stripes; s++) {
            if (marked[s] && missing(s) == 0) {
                parities(there[s], p);
                for (int d = 0; d < p; d++) {
                    due[s][d] = there[s][d].clone();
                }
                marked[s] = false;
                n++;
            }
        }
        return n;
    }

    int drive(int d) {
        return d < 0 || d >= p ? -1 : lost[d] ? 1 : isNew(d) ? 2 : 0;
    }

    int stripe(int s) {
        return s < 0 || s >= stripes ? -1 : !marked[s] ? 0 : missing(s) > 0 ? 2 : 1;
    }

    int word(int d, int s, int k) {
        boolean some = d >= 0 && d < p && s >= 0 && s < stripes && k >= 0 && k < p;
        return some ? there[s][d][k] : 0;
    }

    int agree(int s) {
        if (s < 0 || s >= stripes) {
            return -1;
        }
        int[][] right = new int[p][];
        for (int d = 0; d < p; d++) {
            right[d] = there[s][d].clone();
        }
        parities(right, p);
        int n = 0;
        for (int i = 0; i < p; i++) {
            // The first parity of drive i has words of all drives but i + 1, the second of all but i - 1.
            n += onlyMisses((i + 1) % p, s) && right[i][p - 2] == there[s][i][p - 2] ? 1 : 0;
            n += onlyMisses((i + p - 1) % p, s) && right[i][p - 1] == there[s][i][p - 1] ? 1 : 0;
        }
        return n;
    }

    private boolean onlyMisses(int d, int s) {
        return missing(s) == 0 || missing(s) == 1 && misses(d, s);
    }
}
