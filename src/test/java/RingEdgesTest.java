/** Promises 1 and 2, a new object and count: each sentence that names an edge, by a test of its own. */
public final class RingEdgesTest {
    public static void main(String[] args) {
        Check.sentence("1: The least p of 5, 7, 11, 13 that is not less than the number told", RingEdgesTest::leastSize);
        Check.sentence("1: (13 if all are)", RingEdgesTest::allAreLess);
        Check.sentence("1: 1 .. 4 stripes", RingEdgesTest::stripesAsTold);
        Check.sentence("1: (what is less or more is the nearest of these)", RingEdgesTest::nearestStripes);
        Check.sentence("1: All drives are fine", RingEdgesTest::allFine);
        Check.sentence("1: no stripe is marked", RingEdgesTest::noneMarked);
        Check.sentence("2: 0: p, 1: stripes, 2: blocks", RingEdgesTest::countsOfShape);
        Check.sentence("2: 3: lost drives", RingEdgesTest::countOfLost);
        Check.sentence("2: 4: drives that miss some stripe", RingEdgesTest::countOfMissing);
        Check.sentence("2: NONE for another what", RingEdgesTest::countOfElse);
        Check.done();
    }

    private static void sized(int told, int p) {
        DriveRing x = new DriveRing(told, 1);
        Check.same("p for " + told, x.count(0), p);
        Check.same("the last drive for " + told, x.drive(p - 1), 0);
        Check.same("behind it for " + told, x.drive(p), DriveRing.NONE);
        Check.same("blocks for " + told, x.count(2), p * (p - 2));
    }

    private static void leastSize() {
        int[] small = {Integer.MIN_VALUE, Integer.MIN_VALUE + 1, -13, -5, -1, 0, 1, 2, 3, 4, 5};
        for (int told : small) {
            sized(told, 5);
        }
        sized(6, 7);
        sized(7, 7);
        for (int told = 8; told <= 11; told++) {
            sized(told, 11);
        }
        sized(12, 13);
        sized(13, 13);
    }

    private static void allAreLess() {
        int[] great = {14, 15, 17, 100, Integer.MAX_VALUE - 1, Integer.MAX_VALUE};
        for (int told : great) {
            sized(told, 13);
        }
    }

    private static void striped(int told, int stripes) {
        for (int p : Ring.SIZES) {
            DriveRing x = new DriveRing(p, told);
            Check.same("stripes for " + told, x.count(1), stripes);
            Check.same("the last stripe for " + told, x.stripe(stripes - 1), 0);
            Check.same("behind it for " + told, x.stripe(stripes), DriveRing.NONE);
            int blocks = stripes * p * (p - 2);
            Check.same("blocks for " + told, x.count(2), blocks);
            Check.same("the last block", x.write(blocks - 1, 1), 1);
            Check.same("behind it", x.write(blocks, 1), DriveRing.NONE);
        }
    }

    private static void stripesAsTold() {
        for (int told = 1; told <= 4; told++) {
            striped(told, told);
        }
    }

    private static void nearestStripes() {
        int[] few = {Integer.MIN_VALUE, Integer.MIN_VALUE + 1, -4, -1, 0};
        for (int told : few) {
            striped(told, 1);
        }
        int[] many = {5, 6, 8, 1000, Integer.MAX_VALUE - 1, Integer.MAX_VALUE};
        for (int told : many) {
            striped(told, 4);
        }
        DriveRing both = new DriveRing(Integer.MIN_VALUE, Integer.MAX_VALUE);
        Check.same("p of both", both.count(0), 5);
        Check.same("stripes of both", both.count(1), 4);
    }

    private static void allFine() {
        for (int p : Ring.SIZES) {
            Ring r = new Ring(p, 4);
            for (int d = 0; d < p; d++) {
                Check.same("drive " + d + " of " + p, r.drive(d), 0);
                Check.no("replace " + d, r.replace(d));
            }
            Check.same("lost", r.count(3), 0);
            Check.same("missing some", r.count(4), 0);
            Check.same("nothing is new", r.rebuild(4), 0);
        }
    }

    private static void noneMarked() {
        for (int p : Ring.SIZES) {
            Ring r = new Ring(p, 4);
            for (int s = 0; s < 4; s++) {
                Check.same("stripe " + s + " of " + p, r.stripe(s), 0);
            }
            // A mark would make these stripes unsure.
            r.lose(0);
            for (int s = 0; s < 4; s++) {
                Check.same("stripe " + s + " of " + p, r.stripe(s), 0);
            }
        }
    }

    private static void countsOfShape() {
        for (int p : Ring.SIZES) {
            for (int s = 1; s <= 4; s++) {
                Ring r = new Ring(p, s);
                Check.same("count(0)", r.count(0), p);
                Check.same("count(1)", r.count(1), s);
                Check.same("count(2)", r.count(2), s * p * (p - 2));
                r.lose(0);
                r.switchOffByWrite(p * (p - 2) - 1);
                Check.same("count(0), also later", r.count(0), p);
                Check.same("count(1), also later", r.count(1), s);
                Check.same("count(2), also later", r.count(2), s * p * (p - 2));
            }
        }
    }

    private static void countOfLost() {
        for (int p : Ring.SIZES) {
            Ring r = new Ring(p, 2);
            for (int d = 0; d < p; d++) {
                Check.same("before " + d, r.count(3), d);
                r.lose(d);
                Check.same("of " + d + " another time", r.lose(d) ? 1 : 0, 0);
            }
            Check.same("all", r.count(3), p);
            for (int d = 0; d < p; d++) {
                r.replace(d);
                Check.same("a new one is not lost", r.count(3), p - 1 - d);
            }
        }
    }

    private static void countOfMissing() {
        for (int p : Ring.SIZES) {
            Ring r = new Ring(p, 2);
            for (int d = 0; d < p; d++) {
                Check.same("before " + d, r.count(4), d);
                r.lose(d);
            }
            Check.same("all", r.count(4), p);
            for (int d = 0; d < p; d++) {
                r.replace(d);
                Check.same("a new one misses some", r.count(4), p);
            }
        }
        // A drive counts once, in however many stripes it is new, until it is new in none.
        for (int d = 0; d < 5; d++) {
            Ring r = new Ring(5, 4);
            r.loseAndReplace(d);
            r.lose((d + 1) % 5);
            for (int done = 0; done < 4; done++) {
                Check.same("new in " + (4 - done), r.count(4), 2);
                Check.same("rebuild", r.rebuild(1), 1);
            }
            Check.same("the lost one alone", r.count(4), 1);
        }
        // New in the first stripe alone.
        Ring r = Ring.filled(5, 2);
        r.makeUnsure(0, 4);
        r.replace(4);
        r.rebuild(2);
        Check.same("new in the first alone", r.count(4), 1);
        Check.same("not lost", r.count(3), 0);
    }

    private static void countOfElse() {
        int[] none = {5, 6, 7, 100, -1, -2, Integer.MIN_VALUE, Integer.MAX_VALUE};
        Ring r = new Ring(5, 2);
        for (int what : none) {
            Check.same("count(" + what + ")", r.count(what), DriveRing.NONE);
        }
        r.switchOffByWrite(0);
        for (int what : none) {
            Check.same("count(" + what + ") with power off", r.count(what), DriveRing.NONE);
        }
    }
}
