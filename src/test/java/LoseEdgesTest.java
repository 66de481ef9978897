/** Promises 5 and 6, lose and replace: each sentence that names an edge, by a test of its own. */
public final class LoseEdgesTest {
    public static void main(String[] args) {
        Check.sentence("5: A drive is lost: true", LoseEdgesTest::isLost);
        Check.sentence("5: (also with power off)", LoseEdgesTest::lostWithPowerOff);
        Check.sentence("5: a drive that is new is lost too", LoseEdgesTest::newIsLost);
        Check.sentence("5: false if there is none such", LoseEdgesTest::loseNoneSuch);
        Check.sentence("5: false if it is lost", LoseEdgesTest::loseLost);
        Check.sentence("6: In the place of a lost drive is another one: true", LoseEdgesTest::replaced);
        Check.sentence("6: new in all stripes", LoseEdgesTest::newInAll);
        Check.sentence("6: all its words 0", LoseEdgesTest::zeros);
        Check.sentence("6: false if power is off", LoseEdgesTest::replaceWithPowerOff);
        Check.sentence("6: false if there is none such", LoseEdgesTest::replaceNoneSuch);
        Check.sentence("6: false if it is not lost", LoseEdgesTest::replaceNotLost);
        Check.done();
    }

    private static void isLost() {
        for (int p : Ring.SIZES) {
            Ring r = Ring.filled(p, 1);
            for (int d = 0; d < p; d++) {
                Check.yes("lose(" + d + ")", r.lose(d));
                Check.same("drive(" + d + ")", r.drive(d), 1);
                Check.same("the lost ones", r.count(3), d + 1);
                r.holdsZeros("lost", d, 0);
                if (d + 1 < p) {
                    Check.same("the next is fine", r.drive(d + 1), 0);
                    Check.same("its word", r.word(d + 1, 0, 0), Ring.value(d + 1));
                }
            }
        }
    }

    private static void lostWithPowerOff() {
        Ring r = Ring.filled(5, 2);
        r.switchOffByWrite(0);
        for (int d = 4; d >= 0; d--) {
            Check.yes("lose(" + d + ")", r.lose(d));
            Check.same("drive(" + d + ")", r.drive(d), 1);
            r.holdsZeros("lost", d, 1);
        }
        Check.no("power stays off", r.on());
        Check.same("all are lost", r.count(3), 5);
        Check.same("the mark stays", r.stripe(0), 2);
        Check.same("the other has none", r.stripe(1), 0);
    }

    private static void newIsLost() {
        Ring r = Ring.filled(5, 3);
        r.loseAndReplace(1);
        Check.yes("new in all", r.lose(1));
        Check.same("lost", r.drive(1), 1);
        r.replace(1);
        r.rebuild(2);
        Check.yes("new in one", r.lose(1));
        Check.same("lost", r.drive(1), 1);
        Check.same("new in nothing", r.rebuild(3), 0);
        for (int s = 0; s < 3; s++) {
            r.holdsZeros("what was rebuilt is gone", 1, s);
        }
        // A half of a stripe is gone too, with power off.
        r.replace(1);
        r.cut(3);
        r.rebuild(1);
        Check.same("the half", r.word(1, 0, 2), r.due(1, 0, 2));
        Check.yes("new and half rebuilt", r.lose(1));
        r.holdsZeros("the half is gone", 1, 0);
    }

    private static void loseNoneSuch() {
        for (int p : Ring.SIZES) {
            Ring r = new Ring(p, 1);
            int[] before = r.state();
            Check.no("lose(p)", r.lose(p));
            for (int d : Ring.FAR) {
                Check.no("lose(" + d + ")", r.lose(d));
            }
            r.unchanged("none such", before);
        }
        Ring off = new Ring(5, 1);
        off.switchOffByWrite(0);
        Check.no("lose(5) with power off", off.lose(5));
        Check.no("lose(-1) with power off", off.lose(-1));
    }

    private static void loseLost() {
        Ring r = Ring.filled(5, 2);
        r.lose(0);
        r.lose(4);
        int[] before = r.state();
        Check.no("lose(0)", r.lose(0));
        Check.no("lose(4)", r.lose(4));
        r.unchanged("it is lost", before);
        r.switchOffByWrite(1);
        Check.no("lose(0) with power off", r.lose(0));
        Check.no("lose(4) with power off", r.lose(4));
    }

    private static void replaced() {
        for (int p : Ring.SIZES) {
            Ring r = Ring.filled(p, 1);
            for (int d = 0; d < p; d++) {
                r.lose(d);
            }
            for (int d = 0; d < p; d++) {
                Check.yes("replace(" + d + ")", r.replace(d));
                Check.same("drive(" + d + ")", r.drive(d), 2);
                Check.same("the next", r.drive(d + 1), d + 1 < p ? 1 : DriveRing.NONE);
            }
            Check.same("none is lost", r.count(3), 0);
        }
        // A replacing writes no word, so it is no turn.
        Ring r = Ring.filled(5, 1);
        r.lose(2);
        r.cut(0);
        Check.yes("replace before the next turn", r.replace(2));
        Check.yes("power is on", r.on());
    }

    private static void newInAll() {
        for (int s = 1; s <= 4; s++) {
            Ring r = new Ring(7, s);
            r.loseAndReplace(6);
            for (int i = 0; i < s; i++) {
                Check.same("new in stripe " + i, r.agree(i), 2);
            }
            Check.same("stripes to rebuild", r.rebuild(9), s);
            r.loseAndReplace(6);
            Check.same("also the second time", r.rebuild(9), s);
        }
    }

    private static void zeros() {
        Ring r = Ring.filled(5, 2);
        r.lose(3);
        r.replace(3);
        r.holdsZeros("new", 3, 0);
        r.holdsZeros("new", 3, 1);
        r.rebuild(1);
        r.lose(3);
        r.replace(3);
        r.holdsZeros("after a rebuilding", 3, 0);
        r.cut(4);
        r.rebuild(1);
        r.lose(3);
        r.start();
        r.replace(3);
        r.holdsZeros("after half a rebuilding", 3, 0);
        Check.same("a write beside it", r.write(3, 9), 1);
        r.lose(3);
        r.replace(3);
        r.holdsZeros("after a write", 3, 0);
    }

    private static void replaceWithPowerOff() {
        Ring r = Ring.filled(5, 2);
        r.lose(1);
        r.switchOffByWrite(0);
        r.lose(2);
        int[] before = r.state();
        Check.no("lost before", r.replace(1));
        Check.no("lost since", r.replace(2));
        Check.no("fine", r.replace(3));
        Check.no("none such", r.replace(5));
        r.unchanged("power off", before);
        r.start();
        Check.yes("with power again", r.replace(1));
    }

    private static void replaceNoneSuch() {
        for (int p : Ring.SIZES) {
            Ring r = new Ring(p, 1);
            r.lose(0);
            r.lose(p - 1);
            int[] before = r.state();
            Check.no("replace(p)", r.replace(p));
            for (int d : Ring.FAR) {
                Check.no("replace(" + d + ")", r.replace(d));
            }
            r.unchanged("none such", before);
        }
    }

    private static void replaceNotLost() {
        Ring r = Ring.filled(5, 2);
        int[] before = r.state();
        for (int d = 0; d < 5; d++) {
            Check.no("fine", r.replace(d));
        }
        r.unchanged("fine", before);
        r.loseAndReplace(4);
        Check.no("new in all", r.replace(4));
        r.rebuild(1);
        int[] half = r.state();
        Check.no("new in one", r.replace(4));
        r.unchanged("new in one", half);
        r.rebuild(1);
        Check.no("fine again", r.replace(4));
    }
}
