import java.util.NoSuchElementException;

/** Counts and prints wrong answers; each test ends by done(). */
final class Check {
    /** What readOf answers where read throws: outside of the ints, so that no block can equal it. */
    static final long NO_SUCH = 1L << 40;
    static final long OFF = 1L << 41;

    private static int wrong = 0;

    private Check() {
    }

    static void same(String what, long got, long want) {
        if (got != want) {
            wrong++;
            if (wrong <= 50) {
                System.out.println(what + " answered " + got + ", due is " + want);
            }
        }
    }

    static void yes(String what, boolean got) {
        same(what, got ? 1 : 0, 1);
    }

    static void no(String what, boolean got) {
        same(what, got ? 1 : 0, 0);
    }

    static long readOf(DriveRing x, int block) {
        try {
            return x.read(block);
        } catch (NoSuchElementException e) {
            return NO_SUCH;
        } catch (IllegalStateException e) {
            return OFF;
        }
    }

    static void done() {
        System.out.println(wrong == 0 ? "all answers are as due" : wrong + " answers are not as due");
        if (wrong != 0) {
            System.exit(1);
        }
    }
}
