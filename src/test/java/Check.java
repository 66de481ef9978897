import java.util.NoSuchElementException;

/** Counts and prints wrong answers; each test ends by done(). */
final class Check {
    /** What readOf answers where read throws: outside of the ints, so that no block can equal it. */
    static final long NO_SUCH = 1L << 40;
    static final long OFF = 1L << 41;

    /** Of one sentence, or of what is tested outside of any. */
    private static final int MOST_PRINTED = 20;

    private static int wrong = 0;
    private static int printed = 0;
    private static int checks = 0;
    private static String sentence = "";

    private Check() {
    }

    /** Runs the test of one sentence of the document, whose words stand before what it prints. */
    static void sentence(String words, Runnable test) {
        sentence = "[" + words + "] ";
        printed = 0;
        int before = checks;
        try {
            test.run();
        } catch (RuntimeException e) {
            fail("threw " + e);
        }
        if (checks == before) {
            fail("nothing was checked");
        }
        sentence = "";
    }

    static void same(String what, long got, long want) {
        checks++;
        if (got != want) {
            fail(what + " answered " + got + ", due is " + want);
        }
    }

    static void yes(String what, boolean got) {
        same(what, got ? 1 : 0, 1);
    }

    static void no(String what, boolean got) {
        same(what, got ? 1 : 0, 0);
    }

    static long readOf(DriveRing x, int block) {
        try {
            return x.read(block);
        } catch (NoSuchElementException e) {
            return NO_SUCH;
        } catch (IllegalStateException e) {
            return OFF;
        }
    }

    static void done() {
        System.out.println(wrong == 0 ? "all answers are as due" : wrong + " answers are not as due");
        if (wrong != 0) {
            System.exit(1);
        }
    }

    private static void fail(String what) {
        wrong++;
        printed++;
        if (printed <= MOST_PRINTED) {
            System.out.println(sentence + what);
        }
    }
}
