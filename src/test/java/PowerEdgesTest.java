/** Promises 8 to 10, cut, start and on: each sentence that names an edge, by a test of its own. */
public final class PowerEdgesTest {
    public static void main(String[] args) {
        Check.sentence("8: Power will go after n more turns: true", PowerEdgesTest::afterTurns);
        Check.sentence("8: after 0 more turns", PowerEdgesTest::afterNone);
        Check.sentence("8: false if it is off", PowerEdgesTest::cutWithPowerOff);
        Check.sentence("8: false if n is below 0", PowerEdgesTest::cutBelow);
        Check.sentence("8: (Another number takes the place of this one.)", PowerEdgesTest::anotherNumber);
        Check.sentence("9: Power is on again", PowerEdgesTest::onAgain);
        Check.sentence("9: and will not go", PowerEdgesTest::willNotGo);
        Check.sentence("9: of each marked one", PowerEdgesTest::markedOnly);
        Check.sentence("9: that no drive misses", PowerEdgesTest::noDriveMisses);
        Check.sentence("9: all parities are written anew by its data", PowerEdgesTest::parities);
        Check.sentence("9: and it is not marked any more", PowerEdgesTest::notMarkedAnyMore);
        Check.sentence("9: how many stripes", PowerEdgesTest::howMany);
        Check.sentence("9: NONE, and nothing happens, if it is on", PowerEdgesTest::startWithPowerOn);
        Check.sentence("10: Whether power is on", PowerEdgesTest::whetherOn);
        Check.done();
    }

    /** Turns that are done before power goes, by writes of three turns each. */
    private static int turnsDone(Ring r) {
        for (int writes = 0; writes < 100; writes++) {
            int[] old = {r.word(0, 0, 0), r.word(r.p - 2, 0, r.p - 2), r.word(2, 0, r.p - 1)};
            if (r.write(0, old[0] + 1) != 1) {
                int some = r.word(0, 0, 0) != old[0] ? 1 : 0;
                some += r.word(r.p - 2, 0, r.p - 2) != old[1] ? 1 : 0;
                some += r.word(2, 0, r.p - 1) != old[2] ? 1 : 0;
                return 3 * writes + some;
            }
        }
        return -1;
    }

    private static void afterTurns() {
        for (int p : Ring.SIZES) {
            for (int n = 0; n <= 12; n++) {
                Ring r = new Ring(p, 1);
                Check.yes("cut(" + n + ")", r.cut(n));
                Check.same("turns after cut(" + n + ")", turnsDone(r), n);
                Check.no("on", r.on());
            }
        }
        Ring r = new Ring(5, 1);
        Check.yes("the greatest", r.cut(Integer.MAX_VALUE));
        for (int i = 0; i < 100; i++) {
            Check.same("power is far from going", r.write(0, i), 1);
        }
        // Turns of calls of different kinds go together: 5 of the rebuild, 2 of the write.
        Ring both = Ring.filled(5, 1);
        both.loseAndReplace(1);
        both.cut(7);
        Check.same("rebuild", both.rebuild(1), 1);
        Check.same("write", both.write(0, 1), 0);
        Check.same("the seventh turn", both.word(3, 0, 3), both.due(3, 0, 3) ^ both.due(0, 0, 0) ^ 1);
        Check.same("the eighth", both.word(2, 0, 4), both.due(2, 0, 4));
    }

    private static void afterNone() {
        Ring r = Ring.filled(5, 1);
        Check.yes("cut(0)", r.cut(0));
        Check.yes("not at once", r.on());
        Check.same("what has no turn is done", r.read(0), Ring.value(0));
        Check.yes("what has no turn is done", r.lose(4));
        Check.yes("what has no turn is done", r.replace(4));
        Check.yes("on", r.on());
        Check.same("the first turn", r.rebuild(1), 0);
        Check.no("off", r.on());
        r.holdsZeros("is not done", 4, 0);
    }

    private static void cutWithPowerOff() {
        Ring r = Ring.filled(5, 2);
        r.switchOffByWrite(0);
        int[] before = r.state();
        int[] all = {0, 1, 3, Integer.MAX_VALUE, -1, Integer.MIN_VALUE};
        for (int n : all) {
            Check.no("cut(" + n + ")", r.cut(n));
        }
        r.unchanged("power off", before);
        Check.same("start", r.start(), 1);
        for (int i = 0; i < 10; i++) {
            Check.same("none of them is kept", r.write(i, 1), 1);
        }
    }

    private static void cutBelow() {
        int[] below = {-1, -2, Integer.MIN_VALUE + 1, Integer.MIN_VALUE};
        for (int n : below) {
            Ring r = new Ring(5, 1);
            Check.no("cut(" + n + ")", r.cut(n));
            Check.same("power does not go", turnsDone(r), -1);
            Ring cut = new Ring(5, 1);
            cut.cut(4);
            Check.no("cut(" + n + ")", cut.cut(n));
            Check.same("the number before it stays", turnsDone(cut), 4);
        }
    }

    private static void anotherNumber() {
        int[][] pairs = {{0, 5}, {5, 0}, {2, 1}, {1, 2}, {4, 4}, {Integer.MAX_VALUE, 3}, {0, 7}};
        for (int[] pair : pairs) {
            Ring r = new Ring(5, 1);
            Check.yes("cut(" + pair[0] + ")", r.cut(pair[0]));
            Check.yes("cut(" + pair[1] + ")", r.cut(pair[1]));
            Check.same("turns", turnsDone(r), pair[1]);
        }
        Ring r = new Ring(5, 1);
        r.cut(4);
        r.write(1, 1);
        r.cut(2);
        Check.same("turns since the other one", turnsDone(r), 2);
    }

    private static void onAgain() {
        Ring r = Ring.filled(5, 2);
        r.switchOffByWrite(0);
        Check.no("off", r.on());
        Check.same("start", r.start(), 1);
        Check.yes("on", r.on());
        Check.same("read", r.read(0), Ring.value(0));
        r.switchOffByRebuild(1);
        Check.no("off another time", r.on());
        Check.same("start, with nothing to mend", r.start(), 0);
        Check.yes("on another time", r.on());
    }

    private static void willNotGo() {
        for (int n = 0; n < 3; n++) {
            Ring r = Ring.filled(5, 1);
            r.cut(n);
            r.write(0, 1);
            // The parities that start writes take no power away either.
            Check.same("start", r.start(), 1);
            Check.yes("on", r.on());
            Check.same("agree", r.agree(0), 10);
            Check.same("it does not go", turnsDone(r), -1);
        }
        Ring r = new Ring(5, 1);
        r.switchOffByWrite(0);
        r.start();
        Check.yes("but can be told to", r.cut(2));
        Check.same("and goes", turnsDone(r), 2);
    }

    private static void markedOnly() {
        Ring r = Ring.filled(5, 3);
        int[] before = r.state();
        r.switchOffByWrite(20);
        Check.same("one is marked", r.start(), 1);
        r.unchanged("the others", before);
        r.switchOffByRebuild(0);
        Check.same("none is marked", r.start(), 0);
        r.holdsZeros("what is new is not rebuilt", 0, 0);
        Check.same("new still", r.drive(0), 2);
    }

    private static void noDriveMisses() {
        for (int lost = 0; lost < 5; lost++) {
            Ring r = Ring.filled(5, 2);
            r.cut(1);
            r.write(0, 1);
            r.lose(lost);
            int[] before = r.state();
            Check.same("a lost one misses it", r.start(), 0);
            before[5] = 1;
            r.unchanged("but for power", before);
            Check.same("unsure", r.stripe(0), 2);
            r.replace(lost);
            r.rebuild(2);
            r.switchOffByWrite(15);
            Check.same("a new one misses it, not the other", r.start(), 1);
            Check.same("unsure", r.stripe(0), 2);
        }
    }

    private static void parities() {
        for (int p : Ring.SIZES) {
            for (int b = 0; b < p * (p - 2); b++) {
                for (int n = 0; n < 3; n++) {
                    Ring r = Ring.filled(p, 1);
                    r.cut(n);
                    r.write(b, 44);
                    Check.same("before", r.agree(0), 2 * p - (n == 0 ? 0 : 3 - n));
                    Check.same("start", r.start(), 1);
                    if (n > 0) {
                        r.data[b] = 44;
                    }
                    for (int d = 0; d < p; d++) {
                        r.holds("cut at " + n, d, 0);
                    }
                }
            }
        }
    }

    private static void notMarkedAnyMore() {
        for (int n = 0; n < 3; n++) {
            Ring r = Ring.filled(5, 2);
            r.cut(n);
            r.write(29, 44);
            Check.same("marked", r.stripe(1), 1);
            r.start();
            Check.same("not marked", r.stripe(1), 0);
            r.lose(4);
            r.lose(0);
            Check.same("not unsure", r.stripe(1), 0);
            Check.same("it is told", r.read(29), n == 0 ? Ring.value(29) : 44);
        }
    }

    private static void howMany() {
        for (int s = 0; s < 4; s++) {
            Ring r = new Ring(5, 4);
            r.switchOffByWrite(15 * s);
            Check.same("stripe " + s, r.start(), 1);
            r.switchOffByRebuild(2);
            Check.same("none marked", r.start(), 0);
        }
        // Two unsure ones do not count.
        Ring r = new Ring(5, 4);
        r.lose(2);
        r.switchOffByWrite(0);
        Check.same("unsure", r.start(), 0);
        r.switchOffByWrite(45);
        Check.same("two unsure", r.start(), 0);
        r.replace(2);
        r.rebuild(4);
        r.switchOffByWrite(15);
        Check.same("one between the unsure ones", r.start(), 1);
    }

    private static void startWithPowerOn() {
        Ring r = Ring.filled(5, 2);
        int[] before = r.state();
        Check.same("start", r.start(), DriveRing.NONE);
        r.unchanged("power on", before);
        r.makeUnsure(0, 1);
        int[] unsure = r.state();
        Check.same("start another time", r.start(), DriveRing.NONE);
        r.unchanged("with an unsure stripe", unsure);
        for (int n = 0; n <= 4; n++) {
            Ring cut = new Ring(5, 1);
            cut.cut(n);
            Check.same("start", cut.start(), DriveRing.NONE);
            Check.same("power goes all the same", turnsDone(cut), n);
        }
    }

    private static void whetherOn() {
        Ring r = new Ring(5, 1);
        Check.yes("at first", r.on());
        r.cut(3);
        Check.yes("told to go", r.on());
        r.write(0, 1);
        Check.yes("after the last turn", r.on());
        r.write(0, 1);
        Check.no("at the next", r.on());
        Check.no("asked another time", r.on());
        r.lose(0);
        Check.no("a drive lost", r.on());
        r.start();
        Check.yes("after start", r.on());
    }
}
