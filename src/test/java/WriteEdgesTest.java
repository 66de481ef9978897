/** Promise 3, write: each sentence that names an edge, by a test of its own. */
public final class WriteEdgesTest {
    public static void main(String[] args) {
        Check.sentence("3: A block becomes v", WriteEdgesTest::becomes);
        Check.sentence("3: its stripe is marked; then", WriteEdgesTest::markedFirst);
        Check.sentence("3: the word, its first and its second parity are written", WriteEdgesTest::inOrder);
        Check.sentence("3: where the drives do not miss it", WriteEdgesTest::whereNotMissing);
        Check.sentence("3: a parity by what the word was and v", WriteEdgesTest::byWhatItWas);
        Check.sentence("3: or was told to be, also if the word's own drive misses it", WriteEdgesTest::byWhatItWasTold);
        Check.sentence("3: then the stripe is not marked any more: 1", WriteEdgesTest::notMarkedAnyMore);
        Check.sentence("3: 0 if power goes meanwhile (the mark stays)", WriteEdgesTest::powerGoes);
        Check.sentence("3: NONE, and nothing happens, if power is off", WriteEdgesTest::refusedOff);
        Check.sentence("3: NONE, and nothing happens, if there is no such block", WriteEdgesTest::refusedBlock);
        Check.sentence("3: NONE, and nothing happens, if the stripe is unsure", WriteEdgesTest::refusedUnsure);
        Check.sentence("3: NONE, and nothing happens, if more than two drives miss it", WriteEdgesTest::refusedMissing);
        Check.done();
    }

    private static void becomes() {
        int[] values = {0, 1, -1, Integer.MIN_VALUE, Integer.MAX_VALUE, 0};
        for (int p : Ring.SIZES) {
            int[] edges = {0, p - 1, p, p * (p - 2) - 1};
            for (int b : edges) {
                Ring r = Ring.filled(p, 1);
                for (int v : values) {
                    Check.same("write(" + b + ", " + v + ")", r.write(b, v), 1);
                    Check.same("read(" + b + ")", r.read(b), v);
                    Check.same("agree", r.agree(0), 2 * p);
                }
                int next = (b + 1) % r.data.length;
                Check.same("the next block is as it was", r.read(next), r.data[next]);
            }
        }
    }

    private static void markedFirst() {
        // No turn is done, so that the mark is all that there can be.
        Ring r = Ring.filled(5, 2);
        int[] before = r.state();
        r.cut(0);
        Check.same("write", r.write(15, 1), 0);
        Check.same("marked", r.stripe(1), 1);
        Check.same("the other is not", r.stripe(0), 0);
        Check.same("power mends it", r.start(), 1);
        r.unchanged("no word was written", before);
    }

    private static void inOrder() {
        for (int p : Ring.SIZES) {
            // These go round the ring in one direction or in the other.
            int[] blocks = {0, p - 1, p, 2 * p - 1, p * (p - 3), p * (p - 2) - 1};
            for (int b : blocks) {
                for (int n = 0; n <= 3; n++) {
                    cutInOrder(Ring.filled(p, 1), b, n);
                }
            }
        }
    }

    private static void cutInOrder(Ring r, int b, int n) {
        int d = b % r.p;
        int k = b / r.p;
        int[][] places = {{d, k}, {r.firstParityOf(d, k), r.p - 2}, {r.secondParityOf(d, k), r.p - 1}};
        int[] old = new int[3];
        for (int i = 0; i < 3; i++) {
            old[i] = r.due(places[i][0], 0, places[i][1]);
        }
        int change = r.data[b] ^ 55;
        r.cut(n);
        r.write(b, 55);
        for (int i = 0; i < 3; i++) {
            int want = i < n ? old[i] ^ change : old[i];
            Check.same("block " + b + " after " + n + ", place " + i, r.word(places[i][0], 0, places[i][1]), want);
        }
    }

    private static void whereNotMissing() {
        for (int p : Ring.SIZES) {
            for (int a = 0; a < p; a++) {
                for (int b = 0; b < p; b++) {
                    Ring r = Ring.filled(p, 1);
                    r.lose(a);
                    if (b != a) {
                        r.loseAndReplace(b);
                    }
                    // Of the last word of drive 1: its drive and parities may be a or b, or not.
                    Check.same("write", r.write((p - 3) * p + 1, 321), 1);
                    for (int d = 0; d < p; d++) {
                        if (d == a || d == b) {
                            r.holdsZeros("missing", d, 0);
                        } else {
                            r.holds("there", d, 0);
                        }
                    }
                    Check.same("it is read", r.read((p - 3) * p + 1), 321);
                }
            }
        }
        // A drive that is new in another stripe alone does not miss this one.
        Ring r = Ring.filled(5, 2);
        r.loseAndReplace(0);
        r.rebuild(1);
        Check.same("write where it is not new", r.write(0, 6), 1);
        Check.same("its word", r.word(0, 0, 0), 6);
        Check.same("write where it is new", r.write(15, 7), 1);
        Check.same("its word", r.word(0, 1, 0), 0);
    }

    private static void byWhatItWas() {
        for (int p : Ring.SIZES) {
            Ring r = Ring.filled(p, 1);
            // Drive 3 misses the stripe, so that no parity can be told by all data.
            r.lose(3);
            Check.same("write", r.write(0, 1), 1);
            Check.same("write it again", r.write(0, 1), 1);
            Check.same("write it back", r.write(0, Ring.value(0)), 1);
            Check.same("write", r.write(p, -9), 1);
            for (int d = 0; d < p; d++) {
                if (d != 3) {
                    r.holds("beside a missing one", d, 0);
                }
            }
        }
    }

    private static void byWhatItWasTold() {
        for (int p : Ring.SIZES) {
            for (int other = 0; other < p; other++) {
                Ring r = Ring.filled(p, 1);
                r.lose(p - 1);
                if (other != p - 1) {
                    r.lose(other);
                }
                for (int k = 0; k <= p - 3; k++) {
                    Check.same("write to a missing drive", r.write(k * p + p - 1, 1000 + k), 1);
                }
                Check.same("and again", r.write(p - 1, 2000), 1);
                for (int k = 0; k <= p - 3; k++) {
                    Check.same("it is told", r.read(k * p + p - 1), r.data[k * p + p - 1]);
                }
                r.replace(p - 1);
                r.replace(other);
                Check.same("rebuild", r.rebuild(1), 1);
                r.holds("rebuilt", p - 1, 0);
                r.holds("rebuilt", other, 0);
            }
        }
    }

    private static void notMarkedAnyMore() {
        Ring r = Ring.filled(5, 2);
        r.cut(3);
        Check.same("with just the turns it needs", r.write(29, 1), 1);
        Check.same("not marked", r.stripe(1), 0);
        Check.yes("on", r.on());
        r.lose(4);
        Check.same("with a drive missing", r.write(29, 2), 0);
        Check.same("that one is marked", r.stripe(1), 2);
        r.start();
        r.lose(3);
        Check.same("with two missing", r.write(3, 2), 1);
        Check.same("not marked", r.stripe(0), 0);
        Check.same("so it is told", r.read(3), 2);
    }

    private static void powerGoes() {
        for (int p : Ring.SIZES) {
            for (int n = 0; n <= 3; n++) {
                Ring r = Ring.filled(p, 1);
                r.cut(n);
                Check.same("write, cut at " + n, r.write(1, 5), n < 3 ? 0 : 1);
                Check.same("on", r.on() ? 1 : 0, n < 3 ? 0 : 1);
                Check.same("the mark", r.stripe(0), n < 3 ? 1 : 0);
            }
        }
        // Two of the three drives miss the stripe: one turn is all that there is.
        for (int n = 0; n <= 1; n++) {
            Ring r = Ring.filled(5, 1);
            r.lose(0);
            r.lose(3);
            r.cut(n);
            Check.same("write of one turn, cut at " + n, r.write(0, 5), n);
            Check.same("the mark", r.stripe(0), n == 0 ? 2 : 0);
        }
    }

    private static void refusedOff() {
        Ring r = Ring.filled(5, 2);
        r.switchOffByWrite(0);
        int[] before = r.state();
        Check.same("to the marked stripe", r.write(0, 3), DriveRing.NONE);
        Check.same("to the other stripe", r.write(15, 3), DriveRing.NONE);
        Check.same("to no block", r.write(30, 3), DriveRing.NONE);
        r.unchanged("power off", before);
    }

    private static void refusedBlock() {
        for (int p : Ring.SIZES) {
            Ring r = new Ring(p, 1);
            Check.same("behind the last", r.write(p * (p - 2), 3), DriveRing.NONE);
            Check.same("as many as there are words", r.write(p * p - 1, 3), DriveRing.NONE);
            Check.same("before the first", r.write(-1, 3), DriveRing.NONE);
            Check.same("as far before", r.write(-p * (p - 2), 3), DriveRing.NONE);
        }
        Ring r = Ring.filled(5, 2);
        r.cut(0);
        int[] before = r.state();
        Check.same("behind the last", r.write(30, 3), DriveRing.NONE);
        for (int b : Ring.FAR) {
            Check.same("write(" + b + ")", r.write(b, 3), DriveRing.NONE);
        }
        r.unchanged("no such block", before);
        r.cut(3);
        r.write(30, 3);
        Check.same("it took no turn", r.write(29, 3), 1);
    }

    private static void refusedUnsure() {
        for (int turns = 0; turns < 3; turns++) {
            Ring r = Ring.filled(5, 2);
            r.cut(turns);
            r.write(0, 1);
            r.lose(4);
            r.start();
            r.cut(0);
            int[] before = r.state();
            for (int b = 0; b < 15; b++) {
                Check.same("write(" + b + ")", r.write(b, 3), DriveRing.NONE);
            }
            r.unchanged("unsure", before);
            r.replace(4);
            Check.same("unsure by a new drive", r.write(0, 3), DriveRing.NONE);
            Check.yes("no turn was taken", r.on());
            r.cut(3);
            Check.same("the other stripe is not unsure", r.write(15, 3), 1);
        }
    }

    private static void refusedMissing() {
        Ring r = Ring.filled(5, 2);
        r.lose(0);
        r.lose(1);
        Check.same("two miss it", r.write(2, 3), 1);
        r.lose(2);
        r.cut(0);
        int[] before = r.state();
        Check.same("three miss it, a word that is there", r.write(4, 3), DriveRing.NONE);
        Check.same("three miss it, a word that is not", r.write(2, 3), DriveRing.NONE);
        r.unchanged("three miss it", before);
        r.replace(0);
        r.replace(1);
        r.replace(2);
        Check.same("three new ones miss it", r.write(4, 3), DriveRing.NONE);
        r.lose(3);
        r.lose(4);
        Check.same("all miss it", r.write(4, 3), DriveRing.NONE);
        // Which drives miss another stripe does not count.
        Ring one = Ring.filled(5, 2);
        one.loseAndReplace(0);
        one.rebuild(1);
        one.lose(1);
        one.lose(2);
        Check.same("two miss stripe 0", one.write(0, 3), 1);
        Check.same("three miss stripe 1", one.write(18, 3), DriveRing.NONE);
    }
}
