/** Promise 7, rebuild: each sentence that names an edge, by a test of its own. */
public final class RebuildEdgesTest {
    public static void main(String[] args) {
        Check.sentence("7: Stripe by stripe, in order", RebuildEdgesTest::inOrder);
        Check.sentence("7: of n stripes at most", RebuildEdgesTest::atMost);
        Check.sentence("7: that a drive is new in", RebuildEdgesTest::newIn);
        Check.sentence("7: and that are not unsure", RebuildEdgesTest::notUnsure);
        Check.sentence("7: and that at most two drives miss", RebuildEdgesTest::atMostTwoMiss);
        Check.sentence("7: all words of all drives that are new in it are written", RebuildEdgesTest::allWords);
        Check.sentence("7: as they are told", RebuildEdgesTest::asTold);
        Check.sentence("7: drive by drive", RebuildEdgesTest::driveByDrive);
        Check.sentence("7: then these are not new in it any more", RebuildEdgesTest::notNewAnyMore);
        Check.sentence("7: How many stripes were done", RebuildEdgesTest::howMany);
        Check.sentence("7: (0 if n is below 1)", RebuildEdgesTest::belowOne);
        Check.sentence("7: power may go in the middle (what is new stays so)", RebuildEdgesTest::powerGoes);
        Check.sentence("7: NONE, and nothing happens, if power is off", RebuildEdgesTest::off);
        Check.done();
    }

    private static void inOrder() {
        for (int done = 1; done <= 4; done++) {
            Ring r = Ring.filled(5, 4);
            r.loseAndReplace(4);
            Check.same("rebuild(" + done + ")", r.rebuild(done), done);
            for (int s = 0; s < 4; s++) {
                if (s < done) {
                    r.holds("done", 4, s);
                } else {
                    r.holdsZeros("not done", 4, s);
                }
            }
        }
    }

    private static void atMost() {
        for (int s = 1; s <= 4; s++) {
            int[] all = {s, s + 1, 1000, Integer.MAX_VALUE};
            for (int n : all) {
                Ring r = new Ring(5, s);
                r.loseAndReplace(0);
                Check.same("rebuild(" + n + ") of " + s, r.rebuild(n), s);
                Check.same("nothing is left", r.rebuild(n), 0);
            }
            Ring r = new Ring(5, s);
            r.loseAndReplace(0);
            for (int i = 0; i < s; i++) {
                Check.same("new before", r.drive(0), 2);
                Check.same("rebuild(1)", r.rebuild(1), 1);
            }
            Check.same("fine behind", r.drive(0), 0);
            Check.same("rebuild(1) of none", r.rebuild(1), 0);
        }
    }

    private static void newIn() {
        Ring r = Ring.filled(5, 2);
        int[] before = r.state();
        Check.same("all are fine", r.rebuild(2), 0);
        r.unchanged("all are fine", before);
        r.lose(1);
        int[] lost = r.state();
        Check.same("a lost one is not new", r.rebuild(2), 0);
        r.unchanged("a lost one", lost);
        // Stripe 0 is whole again: it is passed by, and is none of the n.
        r.replace(1);
        r.rebuild(1);
        Check.same("what is done does not count", r.rebuild(1), 1);
        r.holds("the second", 1, 1);
    }

    private static void notUnsure() {
        Ring r = Ring.filled(5, 3);
        r.makeUnsure(0, 2);
        r.replace(2);
        Check.same("the unsure one is none of the n", r.rebuild(1), 1);
        r.holdsZeros("unsure", 2, 0);
        r.holds("the next", 2, 1);
        r.holdsZeros("the one behind", 2, 2);
        Check.same("the rest", r.rebuild(9), 1);
        Check.same("none but the unsure one", r.rebuild(9), 0);
        Check.same("unsure still", r.stripe(0), 2);
        // With an unsure one last, and no turn taken there.
        Ring last = Ring.filled(5, 2);
        last.makeUnsure(29, 2);
        last.replace(2);
        last.cut(5);
        Check.same("all but the last", last.rebuild(2), 1);
        Check.yes("on", last.on());
        last.holdsZeros("unsure", 2, 1);
    }

    private static void atMostTwoMiss() {
        Ring r = Ring.filled(5, 2);
        r.loseAndReplace(0);
        r.rebuild(1);
        r.lose(1);
        r.loseAndReplace(2);
        // Drives 1 and 2 miss stripe 0, and drive 0 misses stripe 1 beside them.
        r.cut(5);
        Check.same("two miss the first, three the second", r.rebuild(2), 1);
        Check.yes("on", r.on());
        r.holds("two miss it", 2, 0);
        r.holdsZeros("three miss it", 2, 1);
        Check.same("new in the second", r.drive(2), 2);
        Check.same("nothing more", r.rebuild(2), 0);
        r.replace(1);
        r.cut(5);
        Check.same("the first, for drive 1", r.rebuild(2), 1);
        Check.same("three are new in the second", r.rebuild(2), 0);
        Check.yes("on", r.on());
        // The stripe that too many miss comes first, unsure too: the next is done all the same.
        Ring first = Ring.filled(5, 2);
        first.makeUnsure(0, 4);
        first.replace(4);
        first.rebuild(2);
        first.loseAndReplace(3);
        first.loseAndReplace(2);
        Check.same("the second", first.rebuild(2), 1);
        first.holds("the second", 2, 1);
        first.holds("the second", 3, 1);
    }

    private static void allWords() {
        for (int p : Ring.SIZES) {
            Ring r = Ring.filled(p, 1);
            r.loseAndReplace(0);
            r.loseAndReplace(p - 1);
            r.cut(2 * p);
            Check.same("rebuild", r.rebuild(1), 1);
            Check.yes("in as many turns as they have words", r.on());
            r.holds("the first", 0, 0);
            r.holds("the last", p - 1, 0);
            Check.same("agree", r.agree(0), 2 * p);
            // Words that are 0 are written too.
            Ring zero = new Ring(p, 1);
            zero.loseAndReplace(1);
            zero.cut(p - 1);
            Check.same("a word is left", zero.rebuild(1), 0);
        }
        Ring beside = Ring.filled(5, 1);
        beside.lose(3);
        beside.loseAndReplace(1);
        beside.cut(5);
        Check.same("a lost one is not written", beside.rebuild(1), 1);
        Check.yes("on", beside.on());
        beside.holdsZeros("lost", 3, 0);
        beside.holds("new", 1, 0);
    }

    private static void asTold() {
        for (int p : Ring.SIZES) {
            Ring r = Ring.filled(p, 1);
            r.loseAndReplace(p - 1);
            r.loseAndReplace(0);
            // Written while their drives miss it, and with half of the old words there.
            r.cut(p);
            r.rebuild(1);
            r.start();
            for (int k = 0; k <= p - 3; k++) {
                Check.same("write", r.write(k * p, 70 + k), 1);
                Check.same("write", r.write(k * p + p - 1, 90 + k), 1);
            }
            Check.same("rebuild", r.rebuild(1), 1);
            r.holds("as told", 0, 0);
            r.holds("as told", p - 1, 0);
        }
    }

    private static void driveByDrive() {
        for (int n = 0; n <= 20; n++) {
            Ring r = Ring.filled(5, 2);
            // The later drive comes first in the calls, not in the rebuilding.
            r.loseAndReplace(3);
            r.loseAndReplace(0);
            r.cut(n);
            Check.same("rebuild cut at " + n, r.rebuild(2), n / 10);
            for (int i = 0; i < 20; i++) {
                int d = i % 10 < 5 ? 0 : 3;
                int want = i < n ? r.due(d, i / 10, i % 5) : 0;
                Check.same("turn " + i + " of " + n, r.word(d, i / 10, i % 5), want);
            }
        }
    }

    private static void notNewAnyMore() {
        Ring r = Ring.filled(5, 2);
        r.loseAndReplace(2);
        r.loseAndReplace(4);
        r.cut(10);
        Check.same("with just the turns of a stripe", r.rebuild(1), 1);
        Check.yes("on", r.on());
        Check.same("neither is new in it", r.agree(0), 10);
        Check.same("both are in the next", r.agree(1), 0);
        Check.same("drive(2)", r.drive(2), 2);
        r.cut(13);
        Check.same("the next", r.rebuild(1), 1);
        Check.same("drive(2)", r.drive(2), 0);
        Check.same("drive(4)", r.drive(4), 0);
        Check.same("a write to it", r.write(2, 8), 1);
        Check.same("is done there", r.word(2, 0, 0), 8);
    }

    private static void howMany() {
        // Two whole stripes, and then power goes in the third.
        for (int n = 0; n <= 15; n++) {
            Ring r = Ring.filled(5, 3);
            r.loseAndReplace(1);
            r.cut(n);
            Check.same("cut at " + n, r.rebuild(3), n / 5);
            Check.same("on", r.on() ? 1 : 0, n < 15 ? 0 : 1);
        }
        Ring r = Ring.filled(5, 3);
        r.makeUnsure(15, 1);
        r.replace(1);
        Check.same("the unsure one in the middle is not done", r.rebuild(3), 2);
    }

    private static void belowOne() {
        int[] few = {0, -1, -2, Integer.MIN_VALUE + 1, Integer.MIN_VALUE};
        Ring r = Ring.filled(5, 2);
        for (int n : few) {
            Check.same("nothing is new, rebuild(" + n + ")", r.rebuild(n), 0);
        }
        r.loseAndReplace(1);
        r.cut(0);
        int[] before = r.state();
        for (int n : few) {
            Check.same("rebuild(" + n + ")", r.rebuild(n), 0);
        }
        r.unchanged("n below 1, and no turn taken", before);
    }

    private static void powerGoes() {
        for (int n = 0; n < 10; n++) {
            Ring r = Ring.filled(5, 2);
            r.loseAndReplace(0);
            r.loseAndReplace(1);
            r.cut(n);
            Check.same("rebuild", r.rebuild(2), 0);
            Check.no("on", r.on());
            Check.same("drive(0)", r.drive(0), 2);
            Check.same("drive(1)", r.drive(1), 2);
            Check.same("both miss the stripe still", r.agree(0), 0);
            Check.same("no mark", r.stripe(0), 0);
            Check.same("start", r.start(), 0);
            Check.same("new still", r.drive(0), 2);
            Check.same("told still", r.read(0), Ring.value(0));
            Check.same("told still", r.read(11), Ring.value(11));
            Check.same("from the start again", r.rebuild(2), 2);
            r.holds("at the end", 0, 0);
            r.holds("at the end", 1, 0);
        }
        // What was done before stays done.
        Ring r = Ring.filled(5, 2);
        r.loseAndReplace(0);
        r.cut(7);
        Check.same("one stripe", r.rebuild(2), 1);
        Check.same("it is done", r.agree(0), 10);
        Check.same("the next is not", r.agree(1), 2);
        r.start();
        Check.same("the rest", r.rebuild(2), 1);
    }

    private static void off() {
        Ring r = Ring.filled(5, 2);
        r.switchOffByRebuild(3);
        int[] before = r.state();
        int[] all = {1, 2, 0, -1, Integer.MIN_VALUE, Integer.MAX_VALUE};
        for (int n : all) {
            Check.same("rebuild(" + n + ")", r.rebuild(n), DriveRing.NONE);
        }
        r.unchanged("power off", before);
    }
}
