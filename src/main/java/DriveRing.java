import java.util.NoSuchElementException;

/** A volume on a ring of drives of which any two may be lost. */
public final class DriveRing {
    public static final int NONE = -1;

    private static final int[] SIZES = {5, 7, 11, 13};
    private static final int MOST_STRIPES = 4;
    private static final int MOST_MISSING = 2;

    private final Shape shape;
    private final Stripe[] stripes;
    private final boolean[] lost;
    private final Teller teller;
    private boolean powered;
    /** NONE while power is not told to go. */
    private int turnsLeft;

    public DriveRing(int drives, int stripes) {
        Shape made = new Shape(nearestSize(drives));
        Stripe[] row = new Stripe[Math.max(1, Math.min(stripes, MOST_STRIPES))];
        for (int s = 0; s < row.length; s++) {
            row[s] = new Stripe(made);
        }
        this.shape = made;
        this.stripes = row;
        this.lost = new boolean[made.p];
        this.teller = new Teller(made);
        this.powered = true;
        this.turnsLeft = NONE;
    }

    public int count(int what) {
        switch (what) {
            case 0:
                return shape.p;
            case 1:
                return stripes.length;
            case 2:
                return stripes.length * shape.blocks;
            case 3:
                return lostDrives();
            case 4:
                return incompleteDrives();
            default:
                return NONE;
        }
    }

    public int write(int block, int v) {
        if (!powered || !isBlock(block)) {
            return NONE;
        }
        Stripe at = stripes[block / shape.blocks];
        if (at.isUnsure() || at.missingDrives() > MOST_MISSING) {
            return NONE;
        }
        int k = shape.wordOfBlock(block);
        int d = shape.driveOfBlock(block);
        // Taken before the mark is set, since nothing is told in a marked stripe.
        int change = valueOf(at, d, k) ^ v;
        at.marked = true;
        boolean whole = putIfPresent(at, d, k, v)
                && changeParity(at, d, k, shape.first, change)
                && changeParity(at, d, k, shape.second, change);
        if (!whole) {
            return 0;
        }
        at.marked = false;
        return 1;
    }

    public int read(int block) throws NoSuchElementException, IllegalStateException {
        if (!isBlock(block)) {
            throw new NoSuchElementException("no such block");
        }
        if (!powered) {
            throw new IllegalStateException("power is off");
        }
        Stripe at = stripes[block / shape.blocks];
        int d = shape.driveOfBlock(block);
        if (at.missing[d] && !at.isTold()) {
            throw new NoSuchElementException("the block is missing and not told");
        }
        return valueOf(at, d, shape.wordOfBlock(block));
    }

    public boolean lose(int drive) {
        if (!isDrive(drive) || lost[drive]) {
            return false;
        }
        lost[drive] = true;
        for (int s = 0; s < stripes.length; s++) {
            stripes[s].drop(drive);
        }
        return true;
    }

    public boolean replace(int drive) {
        if (!powered || !isDrive(drive) || !lost[drive]) {
            return false;
        }
        // Its words are 0 and all stripes miss it since it was lost: that is what new means.
        lost[drive] = false;
        return true;
    }

    public int rebuild(int n) {
        if (!powered) {
            return NONE;
        }
        int done = 0;
        for (int s = 0; s < stripes.length && done < n; s++) {
            if (hasNewDrive(stripes[s]) && stripes[s].isTold()) {
                if (!rebuildStripe(stripes[s])) {
                    return done;
                }
                done++;
            }
        }
        return done;
    }

    public boolean cut(int n) {
        if (!powered || n < 0) {
            return false;
        }
        turnsLeft = n;
        return true;
    }

    public int start() {
        if (powered) {
            return NONE;
        }
        powered = true;
        turnsLeft = NONE;
        int mended = 0;
        for (int s = 0; s < stripes.length; s++) {
            Stripe at = stripes[s];
            if (at.marked && !at.isUnsure()) {
                at.renewParities();
                at.marked = false;
                mended++;
            }
        }
        return mended;
    }

    public boolean on() {
        return powered;
    }

    public int drive(int d) {
        if (!isDrive(d)) {
            return NONE;
        }
        if (lost[d]) {
            return 1;
        }
        return missesSomeStripe(d) ? 2 : 0;
    }

    public int stripe(int s) {
        if (!isStripe(s)) {
            return NONE;
        }
        if (stripes[s].isUnsure()) {
            return 2;
        }
        return stripes[s].marked ? 1 : 0;
    }

    public int word(int drive, int s, int k) {
        if (!isDrive(drive) || !isStripe(s) || k < 0 || k >= shape.p) {
            return 0;
        }
        return stripes[s].words[shape.place(drive, k)];
    }

    public int agree(int s) {
        return isStripe(s) ? stripes[s].agreeingParities() : NONE;
    }

    private static int nearestSize(int drives) {
        for (int i = 0; i < SIZES.length; i++) {
            if (SIZES[i] >= drives) {
                return SIZES[i];
            }
        }
        return SIZES[SIZES.length - 1];
    }

    private boolean isBlock(int block) {
        return block >= 0 && block < stripes.length * shape.blocks;
    }

    private boolean isDrive(int d) {
        return d >= 0 && d < shape.p;
    }

    private boolean isStripe(int s) {
        return s >= 0 && s < stripes.length;
    }

    private int lostDrives() {
        int found = 0;
        for (int d = 0; d < shape.p; d++) {
            if (lost[d]) {
                found++;
            }
        }
        return found;
    }

    private int incompleteDrives() {
        int found = 0;
        for (int d = 0; d < shape.p; d++) {
            if (missesSomeStripe(d)) {
                found++;
            }
        }
        return found;
    }

    private boolean missesSomeStripe(int d) {
        for (int s = 0; s < stripes.length; s++) {
            if (stripes[s].missing[d]) {
                return true;
            }
        }
        return false;
    }

    private boolean isNewIn(Stripe at, int d) {
        return at.missing[d] && !lost[d];
    }

    private boolean hasNewDrive(Stripe at) {
        for (int d = 0; d < shape.p; d++) {
            if (isNewIn(at, d)) {
                return true;
            }
        }
        return false;
    }

    /** The caller has seen to it that the word is there, or told. */
    private int valueOf(Stripe at, int d, int k) {
        int place = shape.place(d, k);
        if (!at.missing[d]) {
            return at.words[place];
        }
        teller.tell(at);
        return teller.words[place];
    }

    /** Whether power is still there for one turn more. */
    private boolean takeTurn() {
        if (turnsLeft == 0) {
            powered = false;
            return false;
        }
        if (turnsLeft > 0) {
            turnsLeft--;
        }
        return true;
    }

    private boolean put(Stripe at, int d, int k, int v) {
        if (!takeTurn()) {
            return false;
        }
        at.words[shape.place(d, k)] = v;
        return true;
    }

    /** False only if power went: a word that is not there takes no turn. */
    private boolean putIfPresent(Stripe at, int d, int k, int v) {
        return at.missing[d] || put(at, d, k, v);
    }

    private boolean changeParity(Stripe at, int d, int k, int row, int change) {
        int owner = shape.parityDrive(d, k, row);
        return putIfPresent(at, owner, row, at.words[shape.place(owner, row)] ^ change);
    }

    private boolean rebuildStripe(Stripe at) {
        teller.tell(at);
        for (int d = 0; d < shape.p; d++) {
            if (isNewIn(at, d) && !putDrive(at, d)) {
                return false;
            }
        }
        // Only now, so that a drive stays new if power goes at a later one.
        for (int d = 0; d < shape.p; d++) {
            if (isNewIn(at, d)) {
                at.missing[d] = false;
            }
        }
        return true;
    }

    private boolean putDrive(Stripe at, int d) {
        for (int k = 0; k < shape.p; k++) {
            if (!put(at, d, k, teller.words[shape.place(d, k)])) {
                return false;
            }
        }
        return true;
    }

    /** Where the words of a stripe lie, and which of them belong to which parity. */
    private static final class Shape {
        final int p;
        final int first;
        final int second;
        final int blocks;

        Shape(int p) {
            this.p = p;
            this.first = p - 2;
            this.second = p - 1;
            this.blocks = p * (p - 2);
        }

        int place(int d, int k) {
            return d * p + k;
        }

        int driveOfBlock(int block) {
            return block % blocks % p;
        }

        int wordOfBlock(int block) {
            return block % blocks / p;
        }

        int dataDrive(int owner, int k, int row) {
            return Math.floorMod(owner + step(k, row), p);
        }

        int parityDrive(int d, int k, int row) {
            return Math.floorMod(d - step(k, row), p);
        }

        private int step(int k, int row) {
            return row == first ? k + 2 : -k - 2;
        }
    }

    /** One stripe: its words by drives, and the drives that miss it (lost, or new in it). */
    private static final class Stripe {
        final Shape shape;
        final int[] words;
        final boolean[] missing;
        boolean marked;

        Stripe(Shape shape) {
            this.shape = shape;
            this.words = new int[shape.p * shape.p];
            this.missing = new boolean[shape.p];
        }

        int missingDrives() {
            int found = 0;
            for (int d = 0; d < shape.p; d++) {
                if (missing[d]) {
                    found++;
                }
            }
            return found;
        }

        boolean isUnsure() {
            return marked && missingDrives() > 0;
        }

        boolean isTold() {
            return !marked && missingDrives() <= MOST_MISSING;
        }

        void drop(int d) {
            missing[d] = true;
            for (int k = 0; k < shape.p; k++) {
                words[shape.place(d, k)] = 0;
            }
        }

        void renewParities() {
            for (int d = 0; d < shape.p; d++) {
                words[shape.place(d, shape.first)] = dataSum(d, shape.first);
                words[shape.place(d, shape.second)] = dataSum(d, shape.second);
            }
        }

        int agreeingParities() {
            int found = 0;
            for (int d = 0; d < shape.p; d++) {
                if (agrees(d, shape.first)) {
                    found++;
                }
                if (agrees(d, shape.second)) {
                    found++;
                }
            }
            return found;
        }

        private boolean agrees(int owner, int row) {
            return isWhole(owner, row) && words[shape.place(owner, row)] == dataSum(owner, row);
        }

        private boolean isWhole(int owner, int row) {
            for (int k = 0; k < shape.first; k++) {
                if (missing[shape.dataDrive(owner, k, row)]) {
                    return false;
                }
            }
            return !missing[owner];
        }

        private int dataSum(int owner, int row) {
            int sum = 0;
            for (int k = 0; k < shape.first; k++) {
                sum ^= words[shape.place(shape.dataDrive(owner, k, row), k)];
            }
            return sum;
        }
    }

    /** Tells what belongs on missing drives; made once, as its rows serve every call. */
    private static final class Teller {
        final Shape shape;
        final int[] words;
        final boolean[] known;
        int unknown;

        Teller(Shape shape) {
            this.shape = shape;
            this.words = new int[shape.p * shape.p];
            this.known = new boolean[shape.p * shape.p];
        }

        /** The stripe must not be marked, and at most two drives may miss it. */
        void tell(Stripe from) {
            load(from);
            // Each parity passes by one drive, so some parity lacks one word alone, and the word
            // it gives leaves another such: each round settles one at least.
            int rounds = unknown;
            for (int i = 0; i < rounds && unknown > 0; i++) {
                for (int d = 0; d < shape.p; d++) {
                    settle(d, shape.first);
                    settle(d, shape.second);
                }
            }
        }

        private void load(Stripe from) {
            unknown = 0;
            for (int d = 0; d < shape.p; d++) {
                for (int k = 0; k < shape.p; k++) {
                    int place = shape.place(d, k);
                    // What lies on a new drive may be half of a rebuilding: it must not count.
                    known[place] = !from.missing[d];
                    words[place] = known[place] ? from.words[place] : 0;
                }
                if (from.missing[d]) {
                    unknown += shape.p;
                }
            }
        }

        private void settle(int owner, int row) {
            int own = shape.place(owner, row);
            int sum = words[own];
            int holes = known[own] ? 0 : 1;
            int hole = own;
            for (int k = 0; k < shape.first; k++) {
                int place = shape.place(shape.dataDrive(owner, k, row), k);
                sum ^= words[place];
                if (!known[place]) {
                    holes++;
                    hole = place;
                }
            }
            // A word not yet known counts as 0, so the sum of the others is the one that lacks.
            if (holes == 1) {
                words[hole] = sum;
                known[hole] = true;
                unknown--;
            }
        }
    }
}
