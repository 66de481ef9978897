import java.util.Arrays;

/**
 * A DriveRing as the tests of single sentences use it: it counts the calls, since an object has 512
 * of them, and knows by the document's formulas what each word is due to hold.
 */
final class Ring {
    static final int[] SIZES = {5, 7, 11, 13};
    /** Numbers that no drive, stripe, word or block has. */
    static final int[] FAR = {-1, -2, Integer.MIN_VALUE, Integer.MIN_VALUE + 1, Integer.MAX_VALUE - 1, Integer.MAX_VALUE};

    private static final int MOST_CALLS = 512;

    final int p;
    final int stripes;
    final int[] data;
    private final DriveRing x;
    private int calls = 0;

    /** Of p and stripes as they are, not as they might be told. */
    Ring(int p, int stripes) {
        this.p = p;
        this.stripes = stripes;
        this.data = new int[stripes * p * (p - 2)];
        this.x = new DriveRing(p, stripes);
    }

    static Ring filled(int p, int stripes) {
        Ring r = new Ring(p, stripes);
        for (int b = 0; b < r.data.length; b++) {
            Check.same("filling block " + b, r.write(b, value(b)), 1);
        }
        return r;
    }

    /** No two blocks have the same, and none has 0. */
    static int value(int block) {
        return (block + 1) * 0x9E3779B1;
    }

    private DriveRing call() {
        calls++;
        if (calls > MOST_CALLS) {
            throw new IllegalStateException("the test makes more than 512 calls");
        }
        return x;
    }

    int count(int what) {
        return call().count(what);
    }

    int write(int block, int v) {
        int answer = call().write(block, v);
        if (answer == 1) {
            data[block] = v;
        }
        return answer;
    }

    long read(int block) {
        return Check.readOf(call(), block);
    }

    boolean lose(int d) {
        return call().lose(d);
    }

    boolean replace(int d) {
        return call().replace(d);
    }

    int rebuild(int n) {
        return call().rebuild(n);
    }

    boolean cut(int n) {
        return call().cut(n);
    }

    int start() {
        return call().start();
    }

    boolean on() {
        return call().on();
    }

    int drive(int d) {
        return call().drive(d);
    }

    int stripe(int s) {
        return call().stripe(s);
    }

    int word(int d, int s, int k) {
        return call().word(d, s, k);
    }

    int agree(int s) {
        return call().agree(s);
    }

    int callsLeft() {
        return MOST_CALLS - calls;
    }

    int block(int d, int s, int k) {
        return (s * (p - 2) + k) * p + d;
    }

    int firstParityOf(int d, int k) {
        return (d - k - 2 + 2 * p) % p;
    }

    int secondParityOf(int d, int k) {
        return (d + k + 2) % p;
    }

    /** What word k of a drive is due to hold by the blocks whose writing was answered by 1. */
    int due(int d, int s, int k) {
        if (k < p - 2) {
            return data[block(d, s, k)];
        }
        int sum = 0;
        for (int j = 0; j <= p - 3; j++) {
            int from = k == p - 2 ? (d + j + 2) % p : (d - j - 2 + 2 * p) % p;
            sum ^= data[block(from, s, j)];
        }
        return sum;
    }

    void holds(String when, int d, int s) {
        for (int k = 0; k < p; k++) {
            Check.same(when + ": word(" + d + ", " + s + ", " + k + ")", word(d, s, k), due(d, s, k));
        }
    }

    void holdsZeros(String when, int d, int s) {
        for (int k = 0; k < p; k++) {
            Check.same(when + ": word(" + d + ", " + s + ", " + k + ")", word(d, s, k), 0);
        }
    }

    void loseAndReplace(int d) {
        Check.yes("lose(" + d + ")", lose(d));
        Check.yes("replace(" + d + ")", replace(d));
    }

    /** Power goes; the block's stripe is marked then, but no word is another. */
    void switchOffByWrite(int block) {
        Check.yes("cut(0)", cut(0));
        Check.same("the write that power goes at", write(block, data[block] ^ 1), 0);
    }

    /** Power goes without a mark; the drive is new in all stripes then. */
    void switchOffByRebuild(int d) {
        loseAndReplace(d);
        Check.yes("cut(0)", cut(0));
        Check.same("the rebuild that power goes at", rebuild(1), 0);
    }

    /** The stripe of the block is unsure then, by the drive, which is lost; power is on. */
    void makeUnsure(int block, int d) {
        switchOffByWrite(block);
        Check.yes("lose(" + d + ")", lose(d));
        Check.same("start()", start(), 0);
    }

    /** Everything that can be seen, by calls that change nothing. */
    int[] state() {
        int[] seen = new int[6 + p + 2 * stripes + stripes * p * p];
        int n = 0;
        for (int what = 0; what < 5; what++) {
            seen[n++] = count(what);
        }
        seen[n++] = on() ? 1 : 0;
        for (int d = 0; d < p; d++) {
            seen[n++] = drive(d);
        }
        for (int s = 0; s < stripes; s++) {
            seen[n++] = stripe(s);
            seen[n++] = agree(s);
        }
        for (int i = 0; i < stripes * p * p; i++) {
            seen[n++] = word(i / p % p, i / p / p, i % p);
        }
        return seen;
    }

    void unchanged(String when, int[] before) {
        Check.yes(when + ": nothing happens", Arrays.equals(before, state()));
    }
}
