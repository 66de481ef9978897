/** Each sentence of the document's Terms that names an edge, by a test of its own. */
public final class TermsEdgesTest {
    public static void main(String[] args) {
        Check.sentence("DRIVES are 0 .. p - 1, p being 5, 7, 11 or 13", TermsEdgesTest::drives);
        Check.sentence("STRIPES are 0 .. s - 1", TermsEdgesTest::stripes);
        Check.sentence("In each stripe a drive has the words 0 .. p - 1 (ints, 0 at first)", TermsEdgesTest::words);
        Check.sentence("(ints, 0 at first)", TermsEdgesTest::ints);
        Check.sentence("0 .. p - 3 are DATA", TermsEdgesTest::data);
        Check.sentence("word p - 2 of drive i: the drives (i + k + 2) modulo p", TermsEdgesTest::firstParities);
        Check.sentence("word p - 1 that of the drives (i - k - 2) modulo p", TermsEdgesTest::secondParities);
        Check.sentence("BLOCKS by stripes, by words, by drives; numbered from 0 on", TermsEdgesTest::blocks);
        Check.sentence("LOST (what was on it is gone; it is new in nothing then)", TermsEdgesTest::lost);
        Check.sentence("NEW in some stripes (but not yet what belongs there)", TermsEdgesTest::newInSome);
        Check.sentence("It MISSES a stripe if it is lost, or new in it", TermsEdgesTest::misses);
        Check.sentence("MARKED while a write to it is under way, or was when power went", TermsEdgesTest::marked);
        Check.sentence("Drives' states and marks stay when power is off", TermsEdgesTest::statesStay);
        Check.sentence("TOLD, if at most two drives miss it", TermsEdgesTest::toldByMissing);
        Check.sentence("TOLD, if its stripe is not marked", TermsEdgesTest::toldByMark);
        Check.sentence("it is the only one that agrees with all parities (each word is then told)", TermsEdgesTest::everyWordTold);
        Check.sentence("A stripe that is marked and that a drive misses is UNSURE", TermsEdgesTest::unsure);
        Check.sentence("UNSURE (and stays so: what is new in it is not rebuilt)", TermsEdgesTest::unsureStays);
        Check.sentence("POWER is on at first", TermsEdgesTest::onAtFirst);
        Check.sentence("Each writing of a word to a drive is a TURN", TermsEdgesTest::turns);
        Check.sentence("it goes when the next one would be done, which is not done any more", TermsEdgesTest::goesAtTheNext);
        Check.sentence("nor anything else that the call had still to do", TermsEdgesTest::nothingElse);
        Check.sentence("While it is off nothing can be done but what is said", TermsEdgesTest::off);
        Check.sentence("NONE = -1", () -> Check.same("NONE", DriveRing.NONE, -1));
        Check.sentence("at most 512 calls after it has been made", TermsEdgesTest::lastCall);
        Check.done();
    }

    private static void drives() {
        for (int p : Ring.SIZES) {
            Ring r = new Ring(p, 1);
            Check.same("p", r.count(0), p);
            Check.same("the first of " + p, r.drive(0), 0);
            Check.same("the last of " + p, r.drive(p - 1), 0);
            Check.same("before the first of " + p, r.drive(-1), DriveRing.NONE);
            Check.same("behind the last of " + p, r.drive(p), DriveRing.NONE);
            Check.no("lose(-1)", r.lose(-1));
            Check.no("lose(p)", r.lose(p));
            Check.yes("lose(0)", r.lose(0));
            Check.yes("lose(p - 1)", r.lose(p - 1));
        }
    }

    private static void stripes() {
        for (int p : Ring.SIZES) {
            for (int s = 1; s <= 4; s++) {
                Ring r = new Ring(p, s);
                Check.same("the first of " + s, r.stripe(0), 0);
                Check.same("the last of " + s, r.stripe(s - 1), 0);
                Check.same("before the first of " + s, r.stripe(-1), DriveRing.NONE);
                Check.same("behind the last of " + s, r.stripe(s), DriveRing.NONE);
                Check.same("a write to the last", r.write(r.data.length - 1, 8), 1);
                Check.same("its word", r.word(p - 1, s - 1, p - 3), 8);
            }
        }
    }

    private static void words() {
        for (int p : Ring.SIZES) {
            Ring r = new Ring(p, 2);
            for (int d = 0; d < p; d++) {
                r.holdsZeros("at first", d, 0);
                r.holdsZeros("at first", d, 1);
            }
        }
        // No word is 0 here, so one that lies on a neighbour would be seen.
        Ring r = Ring.filled(5, 2);
        for (int s = 0; s < 2; s++) {
            for (int d = 0; d < 5; d++) {
                r.holds("filled", d, s);
                Check.same("before the first word", r.word(d, s, -1), 0);
                Check.same("behind the last word", r.word(d, s, 5), 0);
            }
        }
    }

    private static void ints() {
        int[] values = {Integer.MIN_VALUE, Integer.MAX_VALUE, -1, 1, 0, 1 << 31 | 1, 0x55555555};
        for (int p : Ring.SIZES) {
            Ring r = new Ring(p, 1);
            for (int v : values) {
                Check.same("write", r.write(p, v), 1);
                Check.same("the word", r.word(0, 0, 1), v);
                Check.same("its first parity", r.word(p - 3, 0, p - 2), v);
                Check.same("its second parity", r.word(3, 0, p - 1), v);
            }
            for (int v : values) {
                r.write(p, v);
                r.write(1, ~v);
                r.lose(0);
                r.lose(1);
                Check.same("told " + v, r.read(p), v);
                Check.same("told " + ~v, r.read(1), ~v);
                r.replace(0);
                r.replace(1);
                Check.same("rebuild", r.rebuild(1), 1);
                Check.same("rebuilt " + v, r.word(0, 0, 1), v);
            }
        }
    }

    private static void data() {
        for (int p : Ring.SIZES) {
            Ring r = new Ring(p, 2);
            int inStripe = p * (p - 2);
            Check.same("the last block of stripe 0", r.write(inStripe - 1, 3), 1);
            Check.same("is word p - 3", r.word(p - 1, 0, p - 3), 3);
            Check.same("the first block of stripe 1", r.write(inStripe, 4), 1);
            Check.same("is word 0 there", r.word(0, 1, 0), 4);
            Check.same("word p - 2 is a parity of the last block", r.word(0, 0, p - 2), 3);
            Check.same("blocks", r.count(2), 2 * inStripe);
        }
    }

    /** The one parity that a lone word makes other than 0 tells which drives go round the ring. */
    private static void firstParities() {
        for (int p : Ring.SIZES) {
            for (int i = 0; i < p; i++) {
                for (int k = 0; k <= p - 3; k++) {
                    Ring r = new Ring(p, 1);
                    r.write(k * p + (i + k + 2) % p, 6);
                    for (int d = 0; d < p; d++) {
                        Check.same("p " + p + ", i " + i + ", k " + k + ": first of " + d, r.word(d, 0, p - 2), d == i ? 6 : 0);
                    }
                }
            }
        }
    }

    private static void secondParities() {
        for (int p : Ring.SIZES) {
            for (int i = 0; i < p; i++) {
                for (int k = 0; k <= p - 3; k++) {
                    Ring r = new Ring(p, 1);
                    r.write(k * p + Math.floorMod(i - k - 2, p), 6);
                    for (int d = 0; d < p; d++) {
                        Check.same("p " + p + ", i " + i + ", k " + k + ": second of " + d, r.word(d, 0, p - 1), d == i ? 6 : 0);
                    }
                }
            }
        }
    }

    private static void blocks() {
        for (int p : Ring.SIZES) {
            int inStripe = p * (p - 2);
            // Block, its drive, stripe and word: the first of all, and both sides of each step.
            int[][] places = {
                {0, 0, 0, 0}, {1, 1, 0, 0},
                {p - 1, p - 1, 0, 0}, {p, 0, 0, 1},
                {2 * p - 1, p - 1, 0, 1}, {2 * p, 0, 0, 2},
                {inStripe - p - 1, p - 1, 0, p - 4}, {inStripe - p, 0, 0, p - 3},
                {inStripe - 1, p - 1, 0, p - 3}, {inStripe, 0, 1, 0},
                {2 * inStripe - 1, p - 1, 1, p - 3}, {2 * inStripe, 0, 2, 0},
                {3 * inStripe - 1, p - 1, 2, p - 3}, {3 * inStripe, 0, 3, 0},
                {4 * inStripe - 1, p - 1, 3, p - 3}};
            for (int[] at : places) {
                Ring r = new Ring(p, 4);
                Check.same("write(" + at[0] + ")", r.write(at[0], 7), 1);
                Check.same("where block " + at[0] + " of " + p + " lies", r.word(at[1], at[2], at[3]), 7);
                Check.same("read(" + at[0] + ")", r.read(at[0]), 7);
            }
            Ring r = new Ring(p, 4);
            Check.same("behind the last", r.write(4 * inStripe, 7), DriveRing.NONE);
            Check.same("before the first", r.write(-1, 7), DriveRing.NONE);
        }
    }

    private static void lost() {
        Ring r = Ring.filled(5, 3);
        r.lose(2);
        for (int s = 0; s < 3; s++) {
            r.holdsZeros("lost", 2, s);
        }
        r.replace(2);
        Check.same("rebuild", r.rebuild(1), 1);
        r.lose(2);
        r.holdsZeros("lost again", 2, 0);
        Check.same("it is lost", r.drive(2), 1);
        Check.same("it is new in nothing", r.rebuild(3), 0);
        r.replace(2);
        Check.same("new in all again", r.rebuild(3), 3);
    }

    private static void newInSome() {
        Ring r = Ring.filled(5, 2);
        r.loseAndReplace(3);
        Check.same("new", r.drive(3), 2);
        r.holdsZeros("another is in its place", 3, 0);
        Check.same("its block is told", r.read(3), Ring.value(3));
        // Words 0 and 1 are back, but the drive is new still: the write passes it by.
        r.cut(2);
        r.rebuild(1);
        r.start();
        Check.same("half of it is there", r.word(3, 0, 0), Ring.value(3));
        Check.same("still new", r.drive(3), 2);
        Check.same("a write", r.write(3, 99), 1);
        Check.same("what is there stays", r.word(3, 0, 0), Ring.value(3));
        Check.same("but is not what is read", r.read(3), 99);
        Check.same("rebuild", r.rebuild(1), 1);
        r.holds("rebuilt", 3, 0);
        r.holdsZeros("new in the other", 3, 1);
        Check.same("new in one", r.drive(3), 2);
    }

    private static void misses() {
        Ring r = Ring.filled(5, 2);
        Check.same("none misses", r.count(4), 0);
        r.lose(0);
        Check.same("a lost one misses stripe 0", r.agree(0), 2);
        Check.same("and stripe 1", r.agree(1), 2);
        r.replace(0);
        Check.same("a new one misses stripe 0", r.agree(0), 2);
        r.rebuild(1);
        Check.same("not what it is not new in", r.agree(0), 10);
        Check.same("what it is new in", r.agree(1), 2);
        Check.same("a write to it there", r.write(0, 12), 1);
        Check.same("is done", r.word(0, 0, 0), 12);
        Check.same("a write where it is new", r.write(15, 13), 1);
        Check.same("passes it by", r.word(0, 1, 0), 0);
    }

    private static void marked() {
        for (int n = 0; n <= 3; n++) {
            Ring r = Ring.filled(5, 2);
            r.cut(n);
            r.write(29, 1);
            Check.same("power went after " + n, r.stripe(1), n < 3 ? 1 : 0);
            Check.same("the other stripe", r.stripe(0), 0);
        }
        Ring r = Ring.filled(5, 2);
        r.switchOffByRebuild(1);
        Check.same("a rebuild is no write", r.stripe(0), 0);
    }

    private static void statesStay() {
        Ring r = Ring.filled(5, 2);
        r.switchOffByWrite(0);
        r.lose(1);
        r.start();
        r.loseAndReplace(2);
        Check.same("a new one, stripe 1", r.rebuild(2), 1);
        // Stripe 0 is unsure, drive 1 lost, drive 2 new in stripe 0.
        r.switchOffByWrite(20);
        int[] dark = r.state();
        Check.same("lost", r.drive(1), 1);
        Check.same("new", r.drive(2), 2);
        Check.same("fine", r.drive(3), 0);
        Check.same("the mark of stripe 0", r.stripe(0), 2);
        Check.same("the mark of stripe 1", r.stripe(1), 2);
        Check.same("start", r.start(), 0);
        Check.same("lost still", r.drive(1), 1);
        Check.same("new still", r.drive(2), 2);
        Check.same("stripe 0 still", r.stripe(0), 2);
        Check.same("stripe 1 still", r.stripe(1), 2);
        dark[5] = 1;
        r.unchanged("but for power", dark);
    }

    private static void toldByMissing() {
        for (int p : Ring.SIZES) {
            Ring r = Ring.filled(p, 1);
            r.lose(p - 1);
            Check.same("one misses it", r.read(p - 1), Ring.value(p - 1));
            r.lose(0);
            Check.same("two miss it", r.read(p - 1), Ring.value(p - 1));
            Check.same("two miss it", r.read(0), Ring.value(0));
            r.lose(2);
            Check.same("three miss it", r.read(p - 1), Check.NO_SUCH);
            Check.same("three miss it", r.read(0), Check.NO_SUCH);
            Check.same("three miss it", r.read(2), Check.NO_SUCH);
            Check.same("not missing", r.read(1), Ring.value(1));
        }
        // Drives that miss other stripes do not count: 0 is new in stripe 1 alone.
        Ring r = Ring.filled(5, 2);
        r.loseAndReplace(0);
        r.rebuild(1);
        r.lose(1);
        r.lose(2);
        Check.same("two miss stripe 0", r.read(1), Ring.value(1));
        Check.same("three miss stripe 1", r.read(16), Check.NO_SUCH);
        Check.same("also what is new there", r.read(15), Check.NO_SUCH);
    }

    private static void toldByMark() {
        Ring r = Ring.filled(5, 2);
        r.makeUnsure(0, 4);
        Check.same("missing in the marked stripe", r.read(4), Check.NO_SUCH);
        Check.same("missing in the other", r.read(19), Ring.value(19));
        r.replace(4);
        Check.same("new in the marked stripe", r.read(4), Check.NO_SUCH);
        Check.same("new in the other", r.read(19), Ring.value(19));
    }

    private static void everyWordTold() {
        for (int p : Ring.SIZES) {
            for (int a = 0; a < p; a++) {
                // b goes round the ring, so the pair p - 1 and 0 is among them.
                for (int gap = 0; gap < p; gap++) {
                    int b = (a + gap) % p;
                    Ring r = Ring.filled(p, 1);
                    r.lose(a);
                    Check.same("lose(" + b + ")", r.lose(b) ? 1 : 0, gap == 0 ? 0 : 1);
                    for (int k = 0; k <= p - 3; k++) {
                        Check.same("told of " + a + " beside " + b, r.read(k * p + a), Ring.value(k * p + a));
                        Check.same("told of " + b + " beside " + a, r.read(k * p + b), Ring.value(k * p + b));
                    }
                    r.replace(b);
                    Check.same("rebuild beside a lost one", r.rebuild(1), 1);
                    r.holds("of " + a + " and " + b, b, 0);
                    r.replace(a);
                    Check.same("rebuild the other", r.rebuild(1), gap == 0 ? 0 : 1);
                    r.holds("of " + a + " and " + b, a, 0);
                }
            }
        }
    }

    private static void unsure() {
        Ring r = Ring.filled(5, 3);
        r.lose(0);
        Check.same("missed, not marked", r.stripe(0), 0);
        r.replace(0);
        r.rebuild(3);
        r.switchOffByWrite(0);
        Check.same("marked, not missed", r.stripe(0), 1);
        r.lose(3);
        Check.same("marked and missed", r.stripe(0), 2);
        Check.same("missed, not marked", r.stripe(1), 0);
        r.start();
        // Here the drive is missing before the mark comes.
        r.switchOffByWrite(16);
        Check.same("missed and then marked", r.stripe(1), 2);
        r.start();
        r.replace(3);
        Check.same("a new one misses it too", r.stripe(0), 2);
        Check.same("a new one misses it too", r.stripe(1), 2);
        Check.same("not marked", r.stripe(2), 0);
    }

    private static void unsureStays() {
        Ring r = Ring.filled(5, 2);
        r.makeUnsure(0, 1);
        r.replace(1);
        Check.same("rebuild does the other", r.rebuild(2), 1);
        Check.same("rebuild does no more", r.rebuild(2), 0);
        Check.same("stays", r.stripe(0), 2);
        Check.same("what is new stays so", r.drive(1), 2);
        r.holdsZeros("not rebuilt", 1, 0);
        r.switchOffByWrite(15);
        Check.same("start mends the other", r.start(), 1);
        Check.same("stays", r.stripe(0), 2);
        r.loseAndReplace(1);
        r.rebuild(2);
        Check.same("stays with another drive", r.stripe(0), 2);
        Check.same("write", r.write(0, 1), DriveRing.NONE);
        Check.same("stays", r.stripe(0), 2);
    }

    private static void onAtFirst() {
        for (int p : Ring.SIZES) {
            Check.yes("on()", new Ring(p, 4).on());
            Ring r = new Ring(p, 1);
            Check.same("start()", r.start(), DriveRing.NONE);
            Check.same("write", r.write(0, 1), 1);
        }
    }

    /** By the greatest cut at which power still goes within the call. */
    private static void turns() {
        for (int missing = 0; missing <= 2; missing++) {
            for (int n = 0; n <= 3; n++) {
                Ring r = Ring.filled(5, 1);
                // The word is on drive 0, its parities on 3 and 2: those are missing here.
                if (missing > 0) {
                    r.lose(3);
                }
                if (missing > 1) {
                    r.loseAndReplace(2);
                }
                r.cut(n);
                Check.same("write without " + missing + ", cut at " + n, r.write(0, 5), n < 3 - missing ? 0 : 1);
            }
        }
        Ring same = Ring.filled(5, 1);
        same.cut(5);
        Check.same("the same value is written too", same.write(0, Ring.value(0)), 1);
        Check.same("the same value is written too", same.write(0, Ring.value(0)), 0);
        for (int p : Ring.SIZES) {
            for (int n = 2 * p - 1; n <= 2 * p; n++) {
                Ring r = new Ring(p, 1);
                r.loseAndReplace(0);
                r.loseAndReplace(p - 1);
                r.cut(n);
                Check.same("rebuild of two, cut at " + n, r.rebuild(1), n < 2 * p ? 0 : 1);
            }
        }
    }

    private static void goesAtTheNext() {
        Ring r = Ring.filled(5, 1);
        r.cut(3);
        Check.same("the three turns are done", r.write(0, 1), 1);
        Check.yes("power goes at the next only", r.on());
        Check.same("a read is no turn", r.read(0), 1);
        Check.same("a rebuild of nothing has none", r.rebuild(1), 0);
        r.loseAndReplace(4);
        Check.yes("still on", r.on());
        Check.same("a refused write has none", r.write(15, 1), DriveRing.NONE);
        Check.yes("still on", r.on());
        Check.same("the next turn", r.write(0, 2), 0);
        Check.no("power went", r.on());
        Check.same("it is not done", r.word(0, 0, 0), 1);
    }

    private static void nothingElse() {
        Ring r = Ring.filled(5, 2);
        r.cut(1);
        r.write(0, 1);
        Check.same("the first parity", r.word(3, 0, 3), r.due(3, 0, 3));
        Check.same("the second parity", r.word(2, 0, 4), r.due(2, 0, 4));
        Check.same("the mark is not taken away", r.stripe(0), 1);
        r.start();
        Ring two = Ring.filled(5, 2);
        two.loseAndReplace(1);
        two.loseAndReplace(4);
        two.cut(7);
        Check.same("rebuild", two.rebuild(2), 0);
        two.holds("the first drive", 1, 0);
        Check.same("the last turn", two.word(4, 0, 1), two.due(4, 0, 1));
        Check.same("the next turn", two.word(4, 0, 2), 0);
        Check.same("what comes behind", two.word(4, 0, 3), 0);
        two.holdsZeros("the next stripe", 1, 1);
        Check.same("the whole drive is new still", two.agree(0), 0);
    }

    private static void off() {
        Ring r = Ring.filled(5, 2);
        r.lose(2);
        r.switchOffByRebuild(1);
        int[] before = r.state();
        Check.same("write", r.write(0, 1), DriveRing.NONE);
        Check.same("read", r.read(0), Check.OFF);
        Check.no("replace", r.replace(2));
        Check.same("rebuild", r.rebuild(2), DriveRing.NONE);
        Check.no("cut", r.cut(9));
        r.unchanged("off", before);
        Check.yes("lose can be done", r.lose(0));
        Check.same("start can be done", r.start(), 0);
        Check.yes("on", r.on());
    }

    private static void lastCall() {
        Ring r = Ring.filled(13, 3);
        while (r.callsLeft() > 5) {
            Check.same("write", r.write(r.callsLeft() % 429, r.callsLeft()), 1);
        }
        r.lose(12);
        r.lose(0);
        r.replace(12);
        Check.same("call 511", r.rebuild(3), 3);
        Check.same("call 512", r.read(13), r.data[13]);
    }
}
