/** Each promise by itself, in ordinary use; the EdgesTests have its sentences one by one. */
public final class PromisesTest {
    private static final int[] WRONG = {-1, Integer.MIN_VALUE, Integer.MAX_VALUE};
    private static final int[] SIZES = {5, 7, 11, 13};

    public static void main(String[] args) {
        newObject();
        counts();
        writeInPlace();
        writeWithMissingDrives();
        writeRefused();
        writeCutAnywhere();
        reads();
        readThrows();
        everyPairIsTold();
        loses();
        replaces();
        rebuilds();
        rebuildsBothDrivesTogether();
        rebuildCutAnywhere();
        rebuildPassesBy();
        rebuildBesideALostDrive();
        cuts();
        starts();
        startLeavesUnsure();
        switches();
        drives();
        stripes();
        words();
        agrees();
        Check.done();
    }

    private static int value(int block) {
        return (block + 1) * 0x9E3779B1;
    }

    private static DriveRing filled(int p, int stripes) {
        DriveRing x = new DriveRing(p, stripes);
        for (int b = 0; b < stripes * p * (p - 2); b++) {
            Check.same("write " + b, x.write(b, value(b)), 1);
        }
        return x;
    }

    /** What word k of a drive is due to hold in a stripe of a filled ring. */
    private static int dueWord(int p, int d, int s, int k) {
        if (k < p - 2) {
            return value(s * p * (p - 2) + k * p + d);
        }
        int sum = 0;
        for (int j = 0; j < p - 2; j++) {
            int at = k == p - 2 ? d + j + 2 : d - j - 2 + 2 * p;
            sum ^= value(s * p * (p - 2) + j * p + at % p);
        }
        return sum;
    }

    private static void wholeDrive(String when, DriveRing x, int p, int d, int s) {
        for (int k = 0; k < p; k++) {
            Check.same(when + ": word " + d + " " + s + " " + k, x.word(d, s, k), dueWord(p, d, s, k));
        }
    }

    // Promise 1
    private static void newObject() {
        int[][] sizes = {{Integer.MIN_VALUE, 5}, {-1, 5}, {0, 5}, {4, 5}, {5, 5}, {6, 7}, {7, 7}, {8, 11}, {11, 11},
            {12, 13}, {13, 13}, {14, 13}, {Integer.MAX_VALUE, 13}};
        for (int[] e : sizes) {
            Check.same("p of " + e[0], new DriveRing(e[0], 1).count(0), e[1]);
        }
        int[][] stripes = {{Integer.MIN_VALUE, 1}, {-1, 1}, {0, 1}, {1, 1}, {2, 2}, {3, 3}, {4, 4}, {5, 4}, {Integer.MAX_VALUE, 4}};
        for (int[] e : stripes) {
            Check.same("stripes of " + e[0], new DriveRing(5, e[0]).count(1), e[1]);
        }
        DriveRing x = new DriveRing(7, 3);
        for (int d = 0; d < 7; d++) {
            Check.same("new drive " + d, x.drive(d), 0);
        }
        for (int s = 0; s < 3; s++) {
            Check.same("new stripe " + s, x.stripe(s), 0);
            Check.same("new agree " + s, x.agree(s), 14);
            Check.same("new word", x.word(6, s, 6), 0);
        }
        Check.yes("new on", x.on());
    }

    // Promise 2
    private static void counts() {
        DriveRing x = new DriveRing(11, 3);
        Check.same("count 0", x.count(0), 11);
        Check.same("count 1", x.count(1), 3);
        Check.same("count 2", x.count(2), 297);
        Check.same("count 3", x.count(3), 0);
        Check.same("count 4", x.count(4), 0);
        x.lose(3);
        x.lose(10);
        Check.same("count 3 of two lost", x.count(3), 2);
        Check.same("count 4 of two lost", x.count(4), 2);
        x.replace(3);
        Check.same("count 3 of a new and a lost", x.count(3), 1);
        Check.same("count 4 of a new and a lost", x.count(4), 2);
        x.rebuild(2);
        Check.same("count 4 of a new in one stripe", x.count(4), 2);
        x.rebuild(1);
        Check.same("count 4 of a lost one", x.count(4), 1);
        x.cut(0);
        x.write(0, 1);
        Check.same("count 3 with power off", x.count(3), 1);
        Check.same("count 5", x.count(5), DriveRing.NONE);
        for (int what : WRONG) {
            Check.same("count " + what, x.count(what), DriveRing.NONE);
        }
    }

    // Promise 3
    private static void writeInPlace() {
        for (int p : SIZES) {
            DriveRing x = new DriveRing(p, 2);
            int block = p * (p - 2) + 2 * p + 1;
            Check.same("write", x.write(block, 9), 1);
            Check.same("write again", x.write(block, 12), 1);
            for (int s = 0; s < 2; s++) {
                for (int d = 0; d < p; d++) {
                    for (int k = 0; k < p; k++) {
                        boolean word = d == 1 && k == 2;
                        boolean first = d == (1 + p - 4) % p && k == p - 2;
                        boolean second = d == 5 % p && k == p - 1;
                        int want = s == 1 && (word || first || second) ? 12 : 0;
                        Check.same("word " + d + " " + s + " " + k + " of " + p, x.word(d, s, k), want);
                    }
                }
            }
        }
        DriveRing x = filled(7, 1);
        for (int d = 0; d < 7; d++) {
            wholeDrive("filled", x, 7, d, 0);
        }
    }

    private static void writeWithMissingDrives() {
        // Block 0 of five drives: its word on drive 0, first parity on 3, second on 2.
        int[][] gone = {{0}, {3}, {2}, {0, 3}, {0, 2}, {2, 3}};
        for (int[] lost : gone) {
            DriveRing x = filled(5, 1);
            for (int d : lost) {
                x.lose(d);
            }
            int change = value(0) ^ 77;
            Check.same("write", x.write(0, 77), 1);
            Check.same("stripe", x.stripe(0), 0);
            Check.same("read back", Check.readOf(x, 0), 77);
            int[][] places = {{0, 0}, {3, 3}, {2, 4}};
            for (int[] at : places) {
                boolean missing = at[0] == lost[0] || lost.length > 1 && at[0] == lost[1];
                int want = missing ? 0 : dueWord(5, at[0], 0, at[1]) ^ change;
                Check.same("word " + at[0] + " 0 " + at[1], x.word(at[0], 0, at[1]), want);
            }
            for (int b = 1; b < 15; b++) {
                Check.same("read " + b, Check.readOf(x, b), value(b));
            }
        }
        DriveRing x = filled(5, 1);
        x.lose(0);
        x.replace(0);
        Check.same("write to a new drive", x.write(0, 5), 1);
        Check.same("a new drive's word stays", x.word(0, 0, 0), 0);
        Check.same("read it", Check.readOf(x, 0), 5);
        // Only the turns that are done count: two here, as the drive of the word misses the stripe.
        x.cut(2);
        Check.same("write in two turns", x.write(0, 6), 1);
        Check.yes("on after them", x.on());
        Check.same("the next write", x.write(0, 7), 0);
        Check.no("on after it", x.on());
    }

    private static void writeRefused() {
        DriveRing x = filled(5, 2);
        int[] none = {-1, 30, 31, Integer.MIN_VALUE, Integer.MAX_VALUE};
        for (int b : none) {
            Check.same("write " + b, x.write(b, 1), DriveRing.NONE);
        }
        Check.same("first block", x.write(0, value(0)), 1);
        Check.same("last block", x.write(29, value(29)), 1);
        x.cut(1);
        Check.same("write cut", x.write(3, 8), 0);
        Check.same("write with power off", x.write(20, 1), DriveRing.NONE);
        x.lose(4);
        x.start();
        Check.same("write to an unsure stripe", x.write(1, 1), DriveRing.NONE);
        Check.same("nothing happened", x.word(1, 0, 0), value(1));
        Check.same("write to the other stripe", x.write(16, value(16)), 1);
        x.lose(3);
        Check.same("two miss it", x.write(16, value(16)), 1);
        x.lose(0);
        x.cut(0);
        Check.same("three miss it", x.write(16, 1), DriveRing.NONE);
        Check.same("nothing happened there", x.word(1, 1, 0), value(16));
        Check.same("not marked", x.stripe(1), 0);
        Check.yes("power is still on", x.on());
        x.replace(0);
        Check.same("a new one misses it too", x.write(16, 1), DriveRing.NONE);
    }

    private static void writeCutAnywhere() {
        // Block 0: the word on drive 0, then the first parity on 3, then the second on 2.
        int[][] places = {{0, 0}, {3, 3}, {2, 4}};
        for (int n = 0; n <= 3; n++) {
            DriveRing x = filled(5, 2);
            x.cut(n);
            Check.same("write cut at " + n, x.write(0, 1), n < 3 ? 0 : 1);
            Check.same("on after " + n, x.on() ? 1 : 0, n < 3 ? 0 : 1);
            Check.same("mark after " + n, x.stripe(0), n < 3 ? 1 : 0);
            Check.same("no mark elsewhere", x.stripe(1), 0);
            for (int i = 0; i < 3; i++) {
                int old = dueWord(5, places[i][0], 0, places[i][1]);
                int want = i < n ? old ^ value(0) ^ 1 : old;
                Check.same("word " + i + " after " + n, x.word(places[i][0], 0, places[i][1]), want);
            }
        }
    }

    // Promise 4
    private static void reads() {
        DriveRing x = filled(7, 4);
        for (int b = 0; b < 140; b++) {
            Check.same("read " + b, Check.readOf(x, b), value(b));
        }
    }

    private static void readThrows() {
        DriveRing x = filled(5, 2);
        int[] none = {-1, 30, Integer.MIN_VALUE, Integer.MAX_VALUE};
        for (int b : none) {
            Check.same("read " + b, Check.readOf(x, b), Check.NO_SUCH);
        }
        x.cut(0);
        x.write(29, 1);
        for (int b : none) {
            Check.same("read with power off " + b, Check.readOf(x, b), Check.NO_SUCH);
        }
        Check.same("read 0 with power off", Check.readOf(x, 0), Check.OFF);
        x.lose(0);
        Check.same("read a missing one with power off", Check.readOf(x, 15), Check.OFF);
        x.start();
        Check.same("missing in an unsure stripe", Check.readOf(x, 15), Check.NO_SUCH);
        Check.same("not missing in an unsure stripe", Check.readOf(x, 16), value(16));
        Check.same("told in the other stripe", Check.readOf(x, 0), value(0));
        x.lose(1);
        x.lose(2);
        Check.same("missing on three", Check.readOf(x, 0), Check.NO_SUCH);
        Check.same("not missing beside three", Check.readOf(x, 3), value(3));
        x.replace(2);
        Check.same("missing on two lost and a new one", Check.readOf(x, 2), Check.NO_SUCH);
    }

    private static void everyPairIsTold() {
        for (int p : SIZES) {
            for (int a = 0; a < p; a++) {
                for (int b = a; b < p; b++) {
                    DriveRing x = filled(p, 1);
                    x.lose(a);
                    Check.same("lose " + b, x.lose(b) ? 1 : 0, a == b ? 0 : 1);
                    for (int k = 0; k < p - 2; k++) {
                        Check.same("read of " + a, Check.readOf(x, k * p + a), value(k * p + a));
                        Check.same("read of " + b, Check.readOf(x, k * p + b), value(k * p + b));
                    }
                    x.replace(a);
                    x.replace(b);
                    Check.same("rebuild of " + a + " and " + b, x.rebuild(1), 1);
                    wholeDrive("pair", x, p, a, 0);
                    wholeDrive("pair", x, p, b, 0);
                    Check.same("agree", x.agree(0), 2 * p);
                }
            }
        }
    }

    // Promise 5
    private static void loses() {
        DriveRing x = filled(5, 2);
        Check.no("lose 5", x.lose(5));
        for (int d : WRONG) {
            Check.no("lose " + d, x.lose(d));
        }
        Check.yes("lose 4", x.lose(4));
        Check.no("lose 4 again", x.lose(4));
        Check.same("drive 4", x.drive(4), 1);
        Check.same("what was there is gone", x.word(4, 1, 2), 0);
        Check.yes("replace", x.replace(4));
        Check.same("rebuild", x.rebuild(1), 1);
        Check.yes("lose a new one", x.lose(4));
        Check.same("it is lost, not new", x.drive(4), 1);
        Check.same("nothing is new", x.rebuild(4), 0);
        Check.same("what was rebuilt is gone", x.word(4, 0, 2), 0);
        x.cut(0);
        x.write(0, 1);
        Check.yes("lose with power off", x.lose(0));
        Check.no("lose it again with power off", x.lose(0));
        Check.same("drive 0", x.drive(0), 1);
        for (int d = 1; d < 4; d++) {
            Check.yes("lose one more", x.lose(d));
        }
        Check.same("all are lost", x.count(3), 5);
    }

    // Promise 6
    private static void replaces() {
        DriveRing x = filled(5, 3);
        Check.no("replace a fine one", x.replace(0));
        Check.no("replace 5", x.replace(5));
        for (int d : WRONG) {
            Check.no("replace " + d, x.replace(d));
        }
        x.lose(0);
        Check.yes("replace a lost one", x.replace(0));
        Check.no("replace a new one", x.replace(0));
        Check.same("it is new", x.drive(0), 2);
        for (int s = 0; s < 3; s++) {
            for (int k = 0; k < 5; k++) {
                Check.same("a new word", x.word(0, s, k), 0);
            }
        }
        Check.same("new in all stripes", x.rebuild(9), 3);
        x.lose(1);
        x.cut(0);
        x.write(0, 1);
        Check.no("replace with power off", x.replace(1));
        Check.same("it stays lost", x.drive(1), 1);
    }

    // Promise 7
    private static void rebuilds() {
        DriveRing x = filled(7, 4);
        Check.same("nothing is new", x.rebuild(4), 0);
        x.lose(2);
        Check.same("lost is not new", x.rebuild(4), 0);
        x.replace(2);
        int[] few = {0, -1, Integer.MIN_VALUE};
        for (int n : few) {
            Check.same("rebuild " + n, x.rebuild(n), 0);
        }
        Check.same("a stripe", x.rebuild(1), 1);
        wholeDrive("first stripe", x, 7, 2, 0);
        Check.same("the next is not done", x.word(2, 1, 0), 0);
        Check.same("still new", x.drive(2), 2);
        Check.same("two stripes", x.rebuild(2), 2);
        wholeDrive("third stripe", x, 7, 2, 2);
        Check.same("the last is not done", x.word(2, 3, 0), 0);
        Check.same("the rest", x.rebuild(Integer.MAX_VALUE), 1);
        wholeDrive("last stripe", x, 7, 2, 3);
        Check.same("fine again", x.drive(2), 0);
        Check.same("no more", x.rebuild(1), 0);
        x.cut(0);
        x.write(0, 1);
        Check.same("power off", x.rebuild(1), DriveRing.NONE);
        Check.same("power off, none asked for", x.rebuild(0), DriveRing.NONE);
    }

    private static void rebuildsBothDrivesTogether() {
        DriveRing x = filled(5, 2);
        x.lose(1);
        x.replace(1);
        x.rebuild(1);
        x.lose(3);
        x.replace(3);
        // Now 3 is new in both stripes and 1 in the second: turns are 5 and 10.
        x.cut(15);
        Check.same("both stripes", x.rebuild(2), 2);
        Check.yes("on", x.on());
        Check.same("drive 1", x.drive(1), 0);
        Check.same("drive 3", x.drive(3), 0);
        Check.same("agree", x.agree(0) + x.agree(1), 20);
        wholeDrive("both", x, 5, 1, 1);
        wholeDrive("both", x, 5, 3, 1);
    }

    private static void rebuildCutAnywhere() {
        for (int n = 0; n <= 20; n++) {
            DriveRing x = filled(5, 2);
            x.lose(4);
            x.lose(1);
            x.replace(4);
            x.replace(1);
            x.cut(n);
            Check.same("rebuild cut at " + n, x.rebuild(2), n / 10);
            Check.same("on after " + n, x.on() ? 1 : 0, n < 20 ? 0 : 1);
            Check.same("drive 1 after " + n, x.drive(1), n < 20 ? 2 : 0);
            for (int i = 0; i < 20; i++) {
                int s = i / 10;
                int d = i % 10 < 5 ? 1 : 4;
                int want = i < n ? dueWord(5, d, s, i % 5) : 0;
                Check.same("turn " + i + " of " + n, x.word(d, s, i % 5), want);
            }
            Check.same("no mark", x.stripe(0) + x.stripe(1), 0);
            Check.same("start", x.start(), n < 20 ? 0 : DriveRing.NONE);
            // After twenty turns power is still on, and would go at the next.
            x.cut(99);
            Check.same("a write between", x.write(1, 4), 1);
            Check.same("the rest of " + n, x.rebuild(2), 2 - n / 10);
            Check.same("what was written", x.word(1, 0, 0), 4);
            Check.same("agree", x.agree(0) + x.agree(1), 20);
        }
    }

    private static void rebuildPassesBy() {
        DriveRing x = filled(5, 3);
        x.cut(0);
        x.write(0, 1);
        x.lose(2);
        x.start();
        x.replace(2);
        // Stripe 0 is unsure: it is not done, and is not one of the two.
        Check.same("rebuild", x.rebuild(2), 2);
        Check.same("unsure stays", x.stripe(0), 2);
        Check.same("new in it", x.drive(2), 2);
        Check.same("its words", x.word(2, 0, 0), 0);
        wholeDrive("passed", x, 5, 2, 1);
        wholeDrive("passed", x, 5, 2, 2);
        x.lose(0);
        x.lose(1);
        x.lose(3);
        x.replace(3);
        Check.same("three miss it", x.rebuild(3), 0);
    }

    private static void rebuildBesideALostDrive() {
        DriveRing x = filled(7, 1);
        x.lose(6);
        x.lose(0);
        x.replace(6);
        x.cut(7);
        Check.same("rebuild", x.rebuild(1), 1);
        Check.yes("seven turns", x.on());
        wholeDrive("beside", x, 7, 6, 0);
        Check.same("the new one", x.drive(6), 0);
        Check.same("the lost one", x.drive(0), 1);
        Check.same("its words", x.word(0, 0, 0), 0);
    }

    // Promise 8
    private static void cuts() {
        DriveRing x = filled(5, 1);
        Check.no("cut -1", x.cut(-1));
        Check.no("cut least", x.cut(Integer.MIN_VALUE));
        Check.same("a cut refused cuts nothing", x.write(0, 1), 1);
        Check.yes("cut 0", x.cut(0));
        Check.yes("on until a turn", x.on());
        Check.yes("another number", x.cut(4));
        Check.same("three turns", x.write(0, 2), 1);
        Check.no("cut -1 between", x.cut(-1));
        Check.same("one more", x.write(0, 3), 0);
        Check.same("it was done", x.word(0, 0, 0), 3);
        Check.same("the next was not", x.agree(0), 8);
        Check.no("cut with power off", x.cut(3));
        Check.same("start", x.start(), 1);
        for (int i = 0; i < 5; i++) {
            Check.same("power does not go again", x.write(i, i), 1);
        }
        Check.yes("cut most", x.cut(Integer.MAX_VALUE));
        Check.same("far off", x.write(0, 3), 1);
    }

    // Promise 9
    private static void starts() {
        for (int n = 0; n < 3; n++) {
            DriveRing x = filled(5, 2);
            Check.same("start with power on", x.start(), DriveRing.NONE);
            x.cut(n);
            Check.same("start leaves the cut", x.start(), DriveRing.NONE);
            x.write(16, 1);
            Check.same("agree before " + n, x.agree(1), n == 0 ? 10 : n == 1 ? 8 : 9);
            Check.same("start", x.start(), 1);
            Check.same("start again", x.start(), DriveRing.NONE);
            Check.yes("on", x.on());
            Check.same("mark", x.stripe(1), 0);
            Check.same("agree", x.agree(1), 10);
            Check.same("the word", Check.readOf(x, 16), n == 0 ? value(16) : 1);
            x.lose(1);
            x.lose(4);
            Check.same("it is told", Check.readOf(x, 16), n == 0 ? value(16) : 1);
        }
        // A rebuild cut leaves no mark, so nothing is mended.
        DriveRing x = filled(5, 1);
        x.lose(0);
        x.replace(0);
        x.cut(2);
        x.rebuild(1);
        Check.same("start after a rebuild", x.start(), 0);
        Check.same("rebuild goes on", x.rebuild(1), 1);
    }

    private static void startLeavesUnsure() {
        DriveRing x = filled(5, 2);
        x.cut(1);
        x.write(0, 1);
        x.lose(4);
        Check.same("start", x.start(), 0);
        Check.same("unsure", x.stripe(0), 2);
        Check.same("the first parity is as it was", x.word(3, 0, 3), dueWord(5, 3, 0, 3));
        x.replace(4);
        x.rebuild(2);
        x.cut(1);
        Check.same("write to the other", x.write(15, 1), 0);
        Check.same("start mends that one alone", x.start(), 1);
        Check.same("unsure stays", x.stripe(0), 2);
        Check.same("the other", x.agree(1), 10);
    }

    // Promise 10
    private static void switches() {
        DriveRing x = new DriveRing(5, 1);
        Check.yes("on at first", x.on());
        x.cut(0);
        Check.yes("on before a turn", x.on());
        Check.same("rebuild has no turn", x.rebuild(1), 0);
        Check.yes("on still", x.on());
        x.write(0, 0);
        Check.no("off", x.on());
        x.start();
        Check.yes("on again", x.on());
    }

    // Promise 11
    private static void drives() {
        DriveRing x = new DriveRing(7, 2);
        Check.same("drive 7", x.drive(7), DriveRing.NONE);
        for (int d : WRONG) {
            Check.same("drive " + d, x.drive(d), DriveRing.NONE);
        }
        Check.same("fine", x.drive(6), 0);
        x.lose(6);
        Check.same("lost", x.drive(6), 1);
        x.replace(6);
        Check.same("new", x.drive(6), 2);
        x.rebuild(1);
        Check.same("new in one", x.drive(6), 2);
        x.rebuild(1);
        Check.same("fine again", x.drive(6), 0);
        x.cut(0);
        x.write(0, 1);
        x.lose(0);
        Check.same("lost with power off", x.drive(0), 1);
    }

    // Promise 12
    private static void stripes() {
        DriveRing x = new DriveRing(5, 3);
        Check.same("stripe 3", x.stripe(3), DriveRing.NONE);
        for (int s : WRONG) {
            Check.same("stripe " + s, x.stripe(s), DriveRing.NONE);
        }
        x.cut(2);
        x.write(44, 1);
        Check.same("marked", x.stripe(2), 1);
        Check.same("not marked", x.stripe(0), 0);
        x.lose(1);
        Check.same("unsure with power off", x.stripe(2), 2);
        Check.same("missed, not marked", x.stripe(0), 0);
        x.start();
        Check.same("unsure", x.stripe(2), 2);
        x.replace(1);
        Check.same("unsure with a new drive", x.stripe(2), 2);
    }

    // Promise 13
    private static void words() {
        DriveRing x = filled(5, 2);
        int[][] none = {{-1, 0, 0}, {5, 0, 0}, {0, -1, 0}, {0, 2, 0}, {0, 0, -1}, {0, 0, 5}, {4, 1, 5}, {1, 0, -5}};
        for (int[] at : none) {
            Check.same("word " + at[0] + " " + at[1] + " " + at[2], x.word(at[0], at[1], at[2]), 0);
        }
        for (int wrong : WRONG) {
            Check.same("drive " + wrong, x.word(wrong, 0, 0), 0);
            Check.same("stripe " + wrong, x.word(0, wrong, 0), 0);
            Check.same("word " + wrong, x.word(0, 0, wrong), 0);
        }
        wholeDrive("last drive", x, 5, 4, 1);
        x.cut(0);
        x.write(0, 1);
        wholeDrive("power off", x, 5, 4, 1);
        x.lose(4);
        Check.same("lost", x.word(4, 1, 0), 0);
    }

    // Promise 14
    private static void agrees() {
        for (int p : SIZES) {
            DriveRing x = filled(p, 1);
            Check.same("agree 1", x.agree(1), DriveRing.NONE);
            for (int s : WRONG) {
                Check.same("agree " + s, x.agree(s), DriveRing.NONE);
            }
            Check.same("all agree", x.agree(0), 2 * p);
            x.cut(2);
            x.write(p + 1, 3);
            Check.same("all but a second parity, power off", x.agree(0), 2 * p - 1);
            x.start();
            x.lose(2);
            Check.same("without a drive", x.agree(0), 2);
            x.replace(2);
            Check.same("with a new drive", x.agree(0), 2);
            x.lose(0);
            Check.same("without two", x.agree(0), 0);
        }
        // All words are 0 here, so a parity is left out only for the drive that misses the stripe.
        for (int d = 0; d < 5; d++) {
            DriveRing zero = new DriveRing(5, 1);
            zero.lose(d);
            Check.same("zeros without a drive", zero.agree(0), 2);
            zero.lose((d + 2) % 5);
            Check.same("zeros without two", zero.agree(0), 0);
        }
        // Without drive 4 two parities are whole: the first of drive 3 and the second of drive 0.
        DriveRing x = filled(5, 1);
        x.cut(1);
        x.write(0, 1);
        x.lose(4);
        Check.same("one of two agrees", x.agree(0), 1);
    }
}
