/** Promise 4, read: each sentence that names an edge, by a test of its own. */
public final class ReadEdgesTest {
    public static void main(String[] args) {
        Check.sentence("4: A block, as it is on its drive", ReadEdgesTest::asItIsThere);
        Check.sentence("4: or as it is told", ReadEdgesTest::asItIsTold);
        Check.sentence("4: NoSuchElementException if there is none such", ReadEdgesTest::noneSuch);
        Check.sentence("4: else IllegalStateException if power is off", ReadEdgesTest::off);
        Check.sentence("4: else NoSuchElementException if it is missing and not told", ReadEdgesTest::notTold);
        Check.sentence("4: a block that is not missing is read in any stripe", ReadEdgesTest::notMissing);
        Check.sentence("4: read changes nothing", ReadEdgesTest::changesNothing);
        Check.done();
    }

    private static void asItIsThere() {
        for (int p : Ring.SIZES) {
            Ring r = Ring.filled(p, 1);
            for (int b = 0; b < r.data.length; b++) {
                Check.same("read(" + b + ")", r.read(b), Ring.value(b));
            }
            // Power went behind the word: it is there, though its parities do not agree.
            r.cut(1);
            r.write(0, 4);
            r.lose(1);
            r.start();
            Check.same("as it is there", r.read(0), 4);
        }
    }

    private static void asItIsTold() {
        for (int p : Ring.SIZES) {
            Ring r = Ring.filled(p, 1);
            r.lose(p - 1);
            r.lose(0);
            for (int b = 0; b < r.data.length; b++) {
                Check.same("read(" + b + ")", r.read(b), Ring.value(b));
            }
            r.replace(0);
            Check.same("told of a new one, not the 0 that is there", r.read(0), Ring.value(0));
        }
    }

    private static void noneSuch() {
        for (int p : Ring.SIZES) {
            for (int s = 1; s <= 4; s++) {
                Ring r = new Ring(p, s);
                Check.same("the last", r.read(r.data.length - 1), 0);
                Check.same("behind the last", r.read(r.data.length), Check.NO_SUCH);
                Check.same("the first", r.read(0), 0);
                for (int b : Ring.FAR) {
                    Check.same("read(" + b + ")", r.read(b), Check.NO_SUCH);
                }
                // This comes before power.
                r.switchOffByWrite(0);
                Check.same("behind the last, power off", r.read(r.data.length), Check.NO_SUCH);
                for (int b : Ring.FAR) {
                    Check.same("read(" + b + ") with power off", r.read(b), Check.NO_SUCH);
                }
            }
        }
    }

    private static void off() {
        Ring r = Ring.filled(5, 2);
        r.switchOffByWrite(0);
        Check.same("the first", r.read(0), Check.OFF);
        Check.same("the last", r.read(29), Check.OFF);
        r.lose(0);
        Check.same("missing and not told: power comes first", r.read(0), Check.OFF);
        Check.same("missing and told", r.read(15), Check.OFF);
        r.lose(1);
        r.lose(2);
        Check.same("missing on three: power comes first", r.read(15), Check.OFF);
        r.start();
        Check.same("with power again", r.read(18), Ring.value(18));
    }

    private static void notTold() {
        Ring r = Ring.filled(5, 2);
        r.makeUnsure(0, 4);
        Check.same("lost, the stripe is marked", r.read(4), Check.NO_SUCH);
        Check.same("lost, the stripe is not marked", r.read(19), Ring.value(19));
        r.replace(4);
        Check.same("new, the stripe is marked", r.read(4), Check.NO_SUCH);
        r.lose(0);
        Check.same("two miss the other", r.read(15), Ring.value(15));
        r.lose(1);
        Check.same("three miss the other, lost", r.read(15), Check.NO_SUCH);
        Check.same("three miss the other, new", r.read(19), Check.NO_SUCH);
        r.replace(0);
        r.replace(1);
        Check.same("three are new in it", r.read(15), Check.NO_SUCH);
        r.lose(2);
        r.lose(3);
        for (int b = 0; b < 30; b++) {
            Check.same("all miss it", r.read(b), Check.NO_SUCH);
        }
    }

    private static void notMissing() {
        Ring r = Ring.filled(5, 2);
        r.makeUnsure(0, 4);
        Check.same("in an unsure stripe", r.read(3), Ring.value(3));
        r.lose(0);
        r.lose(1);
        r.lose(2);
        Check.same("beside four that miss it", r.read(3), Ring.value(3));
        Check.same("beside four that miss it", r.read(18), Ring.value(18));
    }

    private static void changesNothing() {
        Ring r = Ring.filled(5, 2);
        r.lose(1);
        r.loseAndReplace(3);
        r.cut(0);
        int[] before = r.state();
        Check.same("told", r.read(1), Ring.value(1));
        Check.same("told", r.read(28), Ring.value(28));
        Check.same("there", r.read(0), Ring.value(0));
        Check.same("none such", r.read(30), Check.NO_SUCH);
        r.unchanged("read, with the next turn cut off", before);
    }
}
