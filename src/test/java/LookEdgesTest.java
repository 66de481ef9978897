/** Promises 11 to 14, drive, stripe, word and agree: each sentence that names an edge, by a test of its own. */
public final class LookEdgesTest {
    public static void main(String[] args) {
        Check.sentence("11: 0 fine", LookEdgesTest::fine);
        Check.sentence("11: 1 lost", LookEdgesTest::lost);
        Check.sentence("11: 2 new in some stripe", LookEdgesTest::newInSome);
        Check.sentence("11: NONE if there is none such", LookEdgesTest::noDrive);
        Check.sentence("12: 1 it is marked", LookEdgesTest::marked);
        Check.sentence("12: 2 it is unsure (and marked)", LookEdgesTest::unsure);
        Check.sentence("12: 0 neither", LookEdgesTest::neither);
        Check.sentence("12: NONE if there is none such", LookEdgesTest::noStripe);
        Check.sentence("13: Word k of a drive in a stripe as it is there", LookEdgesTest::asItIsThere);
        Check.sentence("13: 0 of a lost one", LookEdgesTest::wordOfLost);
        Check.sentence("13: and where there is none such", LookEdgesTest::noWord);
        Check.sentence("13: (Also with power off.)", LookEdgesTest::wordWithPowerOff);
        Check.sentence("14: How many parities of a stripe agree with the data", LookEdgesTest::howManyAgree);
        Check.sentence("14: of those of which no drive with one of their words misses the stripe", LookEdgesTest::noneMisses);
        Check.sentence("14: (also their own)", LookEdgesTest::ownDriveMisses);
        Check.sentence("14: NONE if there is no such stripe", LookEdgesTest::agreeNoStripe);
        Check.sentence("14: (Also with power off.)", LookEdgesTest::agreeWithPowerOff);
        Check.done();
    }

    private static void fine() {
        for (int p : Ring.SIZES) {
            Ring r = new Ring(p, 1);
            for (int d = 0; d < p; d++) {
                Check.same("drive(" + d + ")", r.drive(d), 0);
            }
            r.loseAndReplace(p - 1);
            r.rebuild(1);
            Check.same("fine again", r.drive(p - 1), 0);
            r.lose(1);
            Check.same("beside a lost one", r.drive(0), 0);
            Check.same("beside a lost one", r.drive(2), 0);
        }
    }

    private static void lost() {
        for (int p : Ring.SIZES) {
            Ring r = new Ring(p, 2);
            r.lose(0);
            r.lose(p - 1);
            Check.same("the first", r.drive(0), 1);
            Check.same("the last", r.drive(p - 1), 1);
            r.replace(0);
            r.rebuild(1);
            r.lose(0);
            Check.same("a new one that is lost", r.drive(0), 1);
            r.switchOffByWrite(1);
            r.lose(2);
            Check.same("lost with power off", r.drive(2), 1);
            r.start();
            Check.same("lost still", r.drive(2), 1);
        }
    }

    private static void newInSome() {
        for (int s = 1; s <= 4; s++) {
            Ring r = new Ring(5, s);
            r.loseAndReplace(4);
            for (int left = s; left > 0; left--) {
                Check.same("new in the last " + left + " of " + s, r.drive(4), 2);
                r.rebuild(1);
            }
            Check.same("new in none", r.drive(4), 0);
        }
        // New in one stripe alone, whichever it is.
        for (int s = 0; s < 4; s++) {
            Ring r = new Ring(5, 4);
            r.makeUnsure(15 * s, 1);
            r.replace(1);
            Check.same("rebuild", r.rebuild(4), 3);
            Check.same("new in stripe " + s + " alone", r.drive(1), 2);
        }
    }

    private static void noDrive() {
        for (int p : Ring.SIZES) {
            Ring r = new Ring(p, 1);
            Check.same("drive(p)", r.drive(p), DriveRing.NONE);
            for (int d : Ring.FAR) {
                Check.same("drive(" + d + ")", r.drive(d), DriveRing.NONE);
            }
            r.switchOffByWrite(0);
            Check.same("drive(p) with power off", r.drive(p), DriveRing.NONE);
            Check.same("drive(-1) with power off", r.drive(-1), DriveRing.NONE);
        }
    }

    private static void marked() {
        for (int s = 0; s < 4; s++) {
            Ring r = new Ring(5, 4);
            r.switchOffByWrite(15 * s + 14);
            for (int i = 0; i < 4; i++) {
                Check.same("stripe(" + i + ")", r.stripe(i), i == s ? 1 : 0);
            }
        }
    }

    private static void unsure() {
        for (int d = 0; d < 5; d++) {
            Ring r = new Ring(5, 2);
            r.switchOffByWrite(15);
            Check.same("marked", r.stripe(1), 1);
            r.lose(d);
            Check.same("without drive " + d, r.stripe(1), 2);
            r.start();
            Check.same("power on", r.stripe(1), 2);
            r.replace(d);
            Check.same("new drive " + d, r.stripe(1), 2);
            r.lose((d + 1) % 5);
            r.lose((d + 2) % 5);
            Check.same("three miss it", r.stripe(1), 2);
        }
    }

    private static void neither() {
        Ring r = new Ring(5, 2);
        Check.same("at first", r.stripe(0), 0);
        for (int d = 0; d < 5; d++) {
            r.lose(d);
            Check.same("missed by " + (d + 1), r.stripe(0), 0);
        }
        for (int d = 0; d < 5; d++) {
            r.replace(d);
            Check.same("new ones", r.stripe(1), 0);
        }
        Ring written = new Ring(5, 2);
        written.write(0, 1);
        Check.same("after a write", written.stripe(0), 0);
        written.switchOffByWrite(0);
        written.start();
        Check.same("after start", written.stripe(0), 0);
    }

    private static void noStripe() {
        for (int s = 1; s <= 4; s++) {
            Ring r = new Ring(5, s);
            Check.same("stripe(s)", r.stripe(s), DriveRing.NONE);
            for (int far : Ring.FAR) {
                Check.same("stripe(" + far + ")", r.stripe(far), DriveRing.NONE);
            }
            r.switchOffByWrite(0);
            Check.same("stripe(s) with power off", r.stripe(s), DriveRing.NONE);
        }
    }

    private static void asItIsThere() {
        for (int p : Ring.SIZES) {
            Ring r = Ring.filled(p, 1);
            for (int d = 0; d < p; d++) {
                r.holds("filled", d, 0);
            }
            r.loseAndReplace(2);
            Check.same("of a new one, not as it is told", r.word(2, 0, 0), 0);
            r.cut(1);
            r.rebuild(1);
            Check.same("of a new one, half rebuilt", r.word(2, 0, 0), Ring.value(2));
            Check.same("the half that is not", r.word(2, 0, 1), 0);
        }
    }

    private static void wordOfLost() {
        for (int p : Ring.SIZES) {
            Ring r = Ring.filled(p, 1);
            r.lose(0);
            r.lose(p - 1);
            r.holdsZeros("lost", 0, 0);
            r.holdsZeros("lost", p - 1, 0);
            // A write to it is told, but not there.
            r.write(0, 3);
            r.holdsZeros("lost and written to", 0, 0);
            r.holds("not lost", 1, 0);
        }
    }

    private static void noWord() {
        for (int p : Ring.SIZES) {
            Ring r = Ring.filled(p, 2 - p / 12);
            int s = r.stripes;
            for (int far : Ring.FAR) {
                Check.same("drive " + far, r.word(far, 0, 0), 0);
                Check.same("stripe " + far, r.word(0, far, 0), 0);
                Check.same("word " + far, r.word(0, 0, far), 0);
                Check.same("all " + far, r.word(far, far, far), 0);
            }
            Check.same("the drive behind the last", r.word(p, 0, 0), 0);
            Check.same("the stripe behind the last", r.word(0, s, 0), 0);
            Check.same("the word behind the last", r.word(0, 0, p), 0);
            Check.same("the word behind the last of all", r.word(p - 1, s - 1, p), 0);
            Check.same("a word of the drive before", r.word(1, 0, -1), 0);
            Check.same("a word of the drive before", r.word(1, 0, -p), 0);
            Check.same("a drive before by a word behind", r.word(-1, 0, p), 0);
            Check.same("a drive behind by a word before", r.word(p, 0, -1), 0);
        }
    }

    private static void wordWithPowerOff() {
        Ring r = Ring.filled(5, 2);
        r.switchOffByWrite(0);
        for (int d = 0; d < 5; d++) {
            r.holds("power off", d, 0);
            r.holds("power off", d, 1);
        }
        r.lose(1);
        r.holdsZeros("lost with power off", 1, 0);
        Check.same("none such with power off", r.word(5, 0, 0), 0);
        Check.same("none such with power off", r.word(0, 2, 0), 0);
        Check.same("none such with power off", r.word(0, 0, 5), 0);
    }

    private static void howManyAgree() {
        for (int p : Ring.SIZES) {
            Ring r = new Ring(p, 2);
            Check.same("all, at first", r.agree(0), 2 * p);
            r.write(0, 5);
            Check.same("all, after a write", r.agree(0), 2 * p);
            int[] due = {2 * p, 2 * p - 2, 2 * p - 1};
            for (int n = 0; n < 3; n++) {
                r.cut(n);
                r.write(p * (p - 2), 20 + n);
                Check.same("cut at " + n, r.agree(1), due[n]);
                Check.same("the other stripe", r.agree(0), 2 * p);
                r.start();
                Check.same("after start", r.agree(1), 2 * p);
            }
        }
    }

    private static void noneMisses() {
        for (int p : Ring.SIZES) {
            for (int a = 0; a < p; a++) {
                // Of each parity one drive alone has no word, and it is that of two parities. All
                // words are 0, so that each parity that counts agrees.
                Ring r = new Ring(p, 2);
                r.lose(a);
                Check.same("without " + a, r.agree(0), 2);
                r.replace(a);
                Check.same("new " + a, r.agree(0), 2);
                r.rebuild(1);
                Check.same("rebuilt " + a, r.agree(0), 2 * p);
                Check.same("not rebuilt " + a, r.agree(1), 2);
                r.lose((a + 1) % p);
                Check.same("two miss it", r.agree(1), 0);
                for (int d = 0; d < p; d++) {
                    r.lose(d);
                }
                Check.same("all miss it", r.agree(0), 0);
            }
        }
        whichTwo();
    }

    /** Of the two that count without drive a, each is made wrong by itself. */
    private static void whichTwo() {
        for (int p : Ring.SIZES) {
            for (int a = 0; a < p; a++) {
                // They are the first of a - 1, with word 0 of a + 1, and the second of a + 1, with
                // word 0 of a - 1.
                Check.same("the first is wrong", agreeWithout(p, a, (a + 1) % p), 1);
                Check.same("the second is wrong", agreeWithout(p, a, (a + p - 1) % p), 1);
                Check.same("neither is wrong", agreeWithout(p, a, a), 2);
            }
        }
    }

    private static int agreeWithout(int p, int a, int block) {
        Ring r = new Ring(p, 1);
        r.cut(1);
        r.write(block, 9);
        r.lose(a);
        return r.agree(0);
    }

    private static void ownDriveMisses() {
        // All data of the first parity of i lie on other drives than i and i + 1, as do those of
        // the second of i + 1: only their own drive leaves them out here, where all words are 0.
        for (int p : Ring.SIZES) {
            for (int i = 0; i < p; i++) {
                Ring r = new Ring(p, 1);
                r.lose(i);
                r.lose((i + 1) % p);
                Check.same("lost " + i + " and the next", r.agree(0), 0);
                r.replace(i);
                r.replace((i + 1) % p);
                Check.same("new " + i + " and the next", r.agree(0), 0);
            }
        }
    }

    private static void agreeNoStripe() {
        for (int s = 1; s <= 4; s++) {
            Ring r = new Ring(5, s);
            Check.same("the last", r.agree(s - 1), 10);
            Check.same("behind the last", r.agree(s), DriveRing.NONE);
            for (int far : Ring.FAR) {
                Check.same("agree(" + far + ")", r.agree(far), DriveRing.NONE);
            }
            r.switchOffByWrite(0);
            Check.same("behind the last with power off", r.agree(s), DriveRing.NONE);
        }
    }

    private static void agreeWithPowerOff() {
        for (int n = 0; n < 3; n++) {
            Ring r = Ring.filled(5, 2);
            r.cut(n);
            r.write(0, 1);
            Check.no("off", r.on());
            Check.same("the marked one", r.agree(0), n == 0 ? 10 : 7 + n);
            Check.same("the other", r.agree(1), 10);
            r.lose(0);
            Check.same("a drive lost with power off", r.agree(1), 2);
        }
    }
}
