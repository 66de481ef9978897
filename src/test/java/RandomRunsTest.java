/** Long runs of mixed calls, wrong ones among them, compared answer by answer with the model. */
public final class RandomRunsTest {
    private static final int RUNS = 3000;
    private static final int MOST_CALLS = 512;

    private final DriveRing x;
    private final Model m;
    private final int run;
    private final int mostMissing;
    private long seed;
    private int calls = 0;

    private RandomRunsTest(int run) {
        this.run = run;
        this.seed = run * 7919L + 17;
        int drives = next(8) == 0 ? next(40) - 10 : next(2) == 0 ? 5 : 5 + next(9);
        int stripes = next(8) == 0 ? next(14) - 5 : 1 + next(4);
        this.mostMissing = next(5) == 0 ? 4 : 2;
        this.x = new DriveRing(drives, stripes);
        this.m = new Model(drives, stripes);
    }

    public static void main(String[] args) {
        for (int run = 0; run < RUNS; run++) {
            new RandomRunsTest(run).go();
        }
        Check.done();
    }

    private int next(int bound) {
        seed = seed * 6364136223846793005L + 1442695040888963407L;
        return (int) ((seed >>> 33) % bound);
    }

    private int near(int bound) {
        if (next(40) == 0) {
            int[] odd = {Integer.MIN_VALUE, Integer.MAX_VALUE, -1, bound, bound + 1, -bound};
            return odd[next(odd.length)];
        }
        return next(bound);
    }

    private void go() {
        while (calls < 400) {
            step(next(100));
        }
        scan();
    }

    private void step(int kind) {
        if (kind < 28) {
            int b = near(m.blocks());
            int v = next(1 << 30) * 4 + next(4);
            due("write " + b + " " + v, x.write(b, v), m.write(b, v));
        } else if (kind < 50) {
            int b = near(m.blocks());
            due("read " + b, Check.readOf(x, b), m.read(b));
        } else if (kind < 53) {
            lose();
        } else if (kind < 57) {
            int d = near(m.p);
            due("replace " + d, x.replace(d) ? 1 : 0, m.replace(d) ? 1 : 0);
        } else if (kind < 61) {
            int n = next(6) == 0 ? near(5) : next(4);
            due("rebuild " + n, x.rebuild(n), m.rebuild(n));
        } else if (kind < 65) {
            int n = next(3) == 0 ? next(4 * m.p) : near(6);
            due("cut " + n, x.cut(n) ? 1 : 0, m.cut(n) ? 1 : 0);
        } else if (kind < 71) {
            due("start", x.start(), m.start());
        } else {
            look(kind);
        }
    }

    private void lose() {
        // A ring with three drives gone has little left to test, so most runs stop before.
        int d = near(m.p);
        boolean valid = d >= 0 && d < m.p;
        if (valid && m.drive(d) == 0 && m.count(4) >= mostMissing) {
            return;
        }
        due("lose " + d, x.lose(d) ? 1 : 0, m.lose(d) ? 1 : 0);
    }

    private void look(int kind) {
        int d = near(m.p);
        int s = near(m.stripes);
        int k = near(m.p);
        if (kind < 73) {
            due("on", x.on() ? 1 : 0, m.power ? 1 : 0);
        } else if (kind < 76) {
            due("count " + k, x.count(k), m.count(k));
        } else if (kind < 79) {
            due("drive " + d, x.drive(d), m.drive(d));
        } else if (kind < 83) {
            due("stripe " + s, x.stripe(s), m.stripe(s));
        } else if (kind < 88) {
            due("agree " + s, x.agree(s), m.agree(s));
        } else {
            due("word " + d + " " + s + " " + k, x.word(d, s, k), m.word(d, s, k));
        }
    }

    private void scan() {
        int from = next(m.stripes * m.p * m.p);
        while (calls < MOST_CALLS) {
            int at = from++ % (m.stripes * m.p * m.p);
            int s = at / (m.p * m.p);
            int d = at / m.p % m.p;
            int k = at % m.p;
            due("word " + d + " " + s + " " + k, x.word(d, s, k), m.word(d, s, k));
        }
    }

    private void due(String call, long got, long want) {
        calls++;
        Check.same("run " + run + ", call " + calls + ": " + call, got, want);
    }
}
