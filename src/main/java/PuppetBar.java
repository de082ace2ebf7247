import java.util.Arrays;

/** A puppet on one bar. What each call answers is promised, by number, in the project's document. */
public final class PuppetBar {
    public static final int BAD = -1, STATE = -2, FULL = -3, NONE = -9;
    public static final int NO = -1000000;

    private static final int MOST_LIMBS = 8, MOST_STRINGS = 6, MOST_BEATS = 7, MOST_IMAGES = 2;
    private static final int MOST_LIFT = 40, MOST_TILT = 3, MOST_LENGTH = 40, MOST_HOLE = 6;
    private static final int MOST_BONE = 9, MOST_WEIGHT = 9, MOST_STRENGTH = 40;
    private static final int MOST_HEIGHT = 49, MOST_LIFTED = 5, MOST_BYTE = 255;
    private static final int FIRST_LIFT = 20, MIDDLE_HOLE = 3, TENTHS = 10;
    private static final int LIFTS = MOST_LIFT + 1, TILTS = 2 * MOST_TILT + 1, HOLES = MOST_HOLE + 1;

    private final Script script = new Script();
    private final Doll doll = new Doll();
    /** A text is read into this one, so that a fault leaves the puppet as it was. */
    private final Doll spare = new Doll();
    private final Scene scene = new Scene();
    private final Scene[] images = {new Scene(), new Scene()};
    private final Sight sight = new Sight();
    private final Order order = new Order();
    private final Kinds kinds = new Kinds();
    /** What only could be is tried out here, so that NOW is never changed by a question. */
    private final Pose trial = new Pose();

    public PuppetBar() {
        scene.pose.empty();
    }

    // ---- the puppet

    public int type(int c) {
        if (c < 0 || c > MOST_BYTE) {
            return BAD;
        }
        return script.add(c) ? script.size() : FULL;
    }

    public int clear() {
        return script.empty();
    }

    public int puppet() {
        int items = script.readInto(spare);
        if (items < 0) {
            return items;
        }
        script.empty();
        doll.copyFrom(spare);
        scene.begin(doll.first);
        for (int i = 0; i < MOST_IMAGES; i++) {
            images[i].kept = false;
        }
        sight.empty();
        return items;
    }

    public int limb(int l, int what) {
        if (!isLimb(l)) {
            return BAD;
        }
        switch (what) {
            case 0: return l == 0 ? NONE : doll.parent[l];
            case 1: return doll.bone[l];
            case 2: return doll.weight[l];
            case 3: return doll.height(scene.pose, l);
            case 4: return doll.bearer(scene.pose, l);
            default: return BAD;
        }
    }

    public int string(int s, int what) {
        if (!isString(s)) {
            return NO;
        }
        switch (what) {
            case 0: return scene.pose.limbOf(s);
            case 1: return scene.pose.holeOf(s);
            case 2: return scene.pose.lengthOf(s);
            case 3: return doll.strength[s];
            case 4: return scene.pose.endOf(s);
            case 5: return doll.isTaut(scene.pose, s) ? 1 : 0;
            case 6: return doll.load(scene.pose, s);
            case 7: return scene.pose.isCut(s) ? 1 : 0;
            default: return NO;
        }
    }

    public int beat(int b, int what) {
        if (!isBeat(b)) {
            return NO;
        }
        switch (what) {
            case 0: return doll.beatLift[b];
            case 1: return doll.beatTilt[b];
            default: return NO;
        }
    }

    public int far(int l, int k) {
        return isLimb(l) && isLimb(k) ? doll.apart(l, k) : BAD;
    }

    // ---- what is done

    public int lifts(int n) {
        if (n < -MOST_LIFTED || n > MOST_LIFTED || n == 0) {
            return BAD;
        }
        int lift = scene.pose.lift() + n;
        if (lift < 0 || lift > MOST_LIFT) {
            return STATE;
        }
        scene.remember();
        scene.pose.setLift(lift);
        return lift;
    }

    public int tilts(int n) {
        int was = scene.pose.tilt();
        if (n < -MOST_TILT || n > MOST_TILT || n == was) {
            return NO;
        }
        scene.remember();
        scene.pose.setTilt(n);
        return was;
    }

    public int cuts(int s) {
        if (!isString(s)) {
            return BAD;
        }
        if (scene.pose.isCut(s)) {
            return STATE;
        }
        scene.remember();
        scene.pose.setCut(scene.pose.cut() | 1 << s);
        return howManyGrounded();
    }

    public int ties(int s, int l, int length) {
        if (!isString(s) || !isLimb(l) || length < 0 || length > MOST_LENGTH) {
            return BAD;
        }
        if (!scene.pose.isCut(s)) {
            return STATE;
        }
        scene.remember();
        scene.pose.setCut(scene.pose.cut() & ~(1 << s));
        scene.pose.setLimb(s, l);
        scene.pose.setLength(s, length);
        return howManyGrounded();
    }

    public int hangs(int s, int hole) {
        if (!isString(s) || hole < 0 || hole > MOST_HOLE) {
            return BAD;
        }
        int was = scene.pose.holeOf(s);
        if (was == hole) {
            return STATE;
        }
        scene.remember();
        scene.pose.setHole(s, hole);
        return was;
    }

    public int holds() {
        scene.remember();
        int snapped = 0;
        int s = doll.mostOverloaded(scene.pose);
        while (s != NONE && snapped < MOST_STRINGS) {
            scene.pose.setCut(scene.pose.cut() | 1 << s);
            snapped++;
            s = doll.mostOverloaded(scene.pose);
        }
        return snapped;
    }

    public int beats(int b) {
        if (!isBeat(b)) {
            return BAD;
        }
        scene.remember();
        doll.moveToBeat(scene.pose, b);
        return howManyGrounded();
    }

    public int undo() {
        return scene.past.takeBack(scene.pose) ? scene.past.known() : STATE;
    }

    public int now(int what) {
        switch (what) {
            case 0: return scene.pose.lift();
            case 1: return scene.pose.tilt();
            case 2: return scene.pose.cut();
            case 3: return doll.grounded(scene.pose);
            case 4: return doll.taut(scene.pose);
            case 5: return doll.heightsTogether(scene.pose);
            case 6: return needed();
            case 7: return doll.crossings(scene.pose);
            default: return NO;
        }
    }

    // ---- what could be

    public int reach(int set, int what) {
        if (set < 0 || set >= 1 << doll.limbs || what < 0 || what > 2) {
            return NO;
        }
        int rank = nearestGrounding(set);
        if (rank == NONE) {
            return NONE;
        }
        switch (what) {
            case 0: return rank / (LIFTS * TILTS);
            case 1: return rank / TILTS % LIFTS;
            default: return rank % TILTS - MOST_TILT;
        }
    }

    public int fell(int l) {
        return isLimb(l) ? doll.lifters(scene.pose, l) : BAD;
    }

    public int path(int l, int b) {
        return isLimb(l) && isBeat(b) ? heightAtBeat(l, b) : BAD;
    }

    public int nods(int l) {
        if (!isLimb(l)) {
            return BAD;
        }
        int nodded = 0;
        for (int b = 1; b < doll.beats - 1; b++) {
            int height = heightAtBeat(l, b);
            if (height < heightAtBeat(l, b - 1) && height < heightAtBeat(l, b + 1)) {
                nodded++;
            }
        }
        return nodded;
    }

    public int play(int i) {
        if (i < -1 || i >= MOST_BEATS) {
            return BAD;
        }
        if (i >= doll.beats) {
            return NONE;
        }
        order.plan(doll, scene.pose);
        return i < 0 ? order.moves() : order.beatAt(i);
    }

    public int odds(int l, int x, int what) {
        if (!isLimb(l) || x < 0 || x > TENTHS || what < 0 || what > 1) {
            return BAD;
        }
        // A limb falls just when each string that alone would lift it breaks: the odds are a power.
        int times = Integer.bitCount(doll.lifters(scene.pose, l));
        int shared = greatestSharedDivisor(x);
        return power(what == 0 ? x / shared : TENTHS / shared, times);
    }

    // ---- what was seen

    public int saw(int l, int height) {
        if (!isLimb(l) || height < 0 || height > MOST_HEIGHT) {
            return BAD;
        }
        return sight.add(l, height) ? sight.size() : FULL;
    }

    public int forget() {
        return sight.empty();
    }

    public int suspects() {
        return sight.suspected(doll, scene.pose);
    }

    public int holes(int s) {
        if (!isString(s)) {
            return BAD;
        }
        return scene.pose.isCut(s) ? STATE : sight.fittingHoles(doll, scene.pose, s);
    }

    public int look() {
        return sight.limbToLookAt(doll, scene.pose);
    }

    // ---- kinds, images

    public int mark(int kind, int l) {
        if (!isLimb(l)) {
            return NO;
        }
        switch (kind) {
            case 0: return kinds.asLimb(doll, scene.pose, l);
            case 1: return kinds.asHead(doll, scene.pose, l);
            case 2: return kinds.asFoot(doll, scene.pose, l);
            case 3: return kinds.asCrown(doll, scene.pose, l);
            case 4: return kinds.asToe(doll, scene.pose, l);
            case 5: return kinds.asHand(doll, scene.pose, l);
            default: return NO;
        }
    }

    public int keep(int image) {
        if (!isImage(image)) {
            return BAD;
        }
        images[image].copyFrom(scene);
        images[image].kept = true;
        return scene.pose.lift();
    }

    public int back(int image) {
        if (!isImage(image)) {
            return BAD;
        }
        if (!images[image].kept) {
            return STATE;
        }
        scene.copyFrom(images[image]);
        return scene.pose.lift();
    }

    public int count(int what) {
        switch (what) {
            case 0: return doll.limbs;
            case 1: return doll.strings;
            case 2: return doll.beats;
            case 3: return sight.size();
            case 4: return scene.past.known();
            case 5: return script.size();
            default: return BAD;
        }
    }

    public long trace() {
        return kinds.asked();
    }

    // ---- what the calls share

    private boolean isLimb(int l) {
        return l >= 0 && l < doll.limbs;
    }

    private boolean isString(int s) {
        return s >= 0 && s < doll.strings;
    }

    private boolean isBeat(int b) {
        return b >= 0 && b < doll.beats;
    }

    private static boolean isImage(int image) {
        return image >= 0 && image < MOST_IMAGES;
    }

    private int howManyGrounded() {
        return Integer.bitCount(doll.grounded(scene.pose));
    }

    private int heightAtBeat(int l, int b) {
        trial.copyFrom(scene.pose);
        doll.moveToBeat(trial, b);
        return doll.height(trial, l);
    }

    private int needed() {
        int all = (1 << doll.strings) - 1;
        int held = all & ~scene.pose.cut();
        int best = held;
        trial.copyFrom(scene.pose);
        for (int set = 0; set < held; set++) {
            boolean heldOnly = (set & ~held) == 0;
            if (heldOnly && Integer.bitCount(set) < Integer.bitCount(best)) {
                trial.setCut(all & ~set);
                if (doll.hangsAlike(scene.pose, trial)) {
                    best = set;
                }
            }
        }
        return best;
    }

    /** Steps, lift and tilt as one number that orders places as reach() does; NONE. */
    private int nearestGrounding(int set) {
        int best = NONE;
        trial.copyFrom(scene.pose);
        for (int lift = 0; lift <= MOST_LIFT; lift++) {
            for (int tilt = -MOST_TILT; tilt <= MOST_TILT; tilt++) {
                int steps = Math.abs(lift - scene.pose.lift()) + Math.abs(tilt - scene.pose.tilt());
                int rank = (steps * LIFTS + lift) * TILTS + tilt + MOST_TILT;
                if (best == NONE || rank < best) {
                    trial.setLift(lift);
                    trial.setTilt(tilt);
                    best = doll.groundsJust(trial, set) ? rank : best;
                }
            }
        }
        return best;
    }

    private static int greatestSharedDivisor(int x) {
        for (int d = TENTHS; d > 1; d--) {
            if (x % d == 0 && TENTHS % d == 0) {
                return d;
            }
        }
        return 1;
    }

    private static int power(int base, int times) {
        int product = 1;
        for (int i = 0; i < times; i++) {
            product *= base;
        }
        return product;
    }

    /** What may change without a text: the bar, and each string's limb, hole and length. */
    private static final class Pose {
        static final int SIZE = 3 + 3 * MOST_STRINGS;
        private static final int LIFT = 0, TILT = 1, CUT = 2;
        private static final int LIMB = 3, HOLE = LIMB + MOST_STRINGS, LENGTH = HOLE + MOST_STRINGS;

        /** One row for all, so that the past and the images copy it in one go. */
        private final int[] row = new int[SIZE];

        int lift() {
            return row[LIFT];
        }

        int tilt() {
            return row[TILT];
        }

        int cut() {
            return row[CUT];
        }

        boolean isCut(int s) {
            return (row[CUT] >> s & 1) == 1;
        }

        int limbOf(int s) {
            return row[LIMB + s];
        }

        int holeOf(int s) {
            return row[HOLE + s];
        }

        int lengthOf(int s) {
            return row[LENGTH + s];
        }

        int endOf(int s) {
            return row[LIFT] + row[TILT] * (row[HOLE + s] - MIDDLE_HOLE) - row[LENGTH + s];
        }

        void setLift(int lift) {
            row[LIFT] = lift;
        }

        void setTilt(int tilt) {
            row[TILT] = tilt;
        }

        void setCut(int bits) {
            row[CUT] = bits;
        }

        void setLimb(int s, int l) {
            row[LIMB + s] = l;
        }

        void setHole(int s, int hole) {
            row[HOLE + s] = hole;
        }

        void setLength(int s, int length) {
            row[LENGTH + s] = length;
        }

        void empty() {
            Arrays.fill(row, 0);
            row[LIFT] = FIRST_LIFT;
        }

        void copyFrom(Pose other) {
            System.arraycopy(other.row, 0, row, 0, SIZE);
        }

        void writeTo(int[] rows, int place) {
            System.arraycopy(row, 0, rows, place * SIZE, SIZE);
        }

        void readFrom(int[] rows, int place) {
            System.arraycopy(rows, place * SIZE, row, 0, SIZE);
        }
    }

    /** The poses ahead of the latest steps; a ring, so that an eleventh step takes the oldest one's place. */
    private static final class Past {
        private static final int MOST_STEPS = 10;

        private final int[] rows = new int[MOST_STEPS * Pose.SIZE];
        private int steps;
        private int next;

        int known() {
            return steps;
        }

        void empty() {
            steps = 0;
            next = 0;
        }

        void add(Pose pose) {
            pose.writeTo(rows, next);
            next = next + 1 < MOST_STEPS ? next + 1 : 0;
            steps = Math.min(steps + 1, MOST_STEPS);
        }

        boolean takeBack(Pose pose) {
            if (steps == 0) {
                return false;
            }
            next = next > 0 ? next - 1 : MOST_STEPS - 1;
            steps--;
            pose.readFrom(rows, next);
            return true;
        }

        void copyFrom(Past other) {
            System.arraycopy(other.rows, 0, rows, 0, rows.length);
            steps = other.steps;
            next = other.next;
        }
    }

    /** NOW, or an image of it. */
    private static final class Scene {
        final Pose pose = new Pose();
        final Past past = new Past();
        boolean kept;

        void begin(Pose first) {
            pose.copyFrom(first);
            past.empty();
        }

        void remember() {
            past.add(pose);
        }

        void copyFrom(Scene other) {
            pose.copyFrom(other.pose);
            past.copyFrom(other.past);
        }
    }

    /** What a text tells and nothing but a text changes; and how that hangs in a pose. */
    private static final class Doll {
        final int[] parent = new int[MOST_LIMBS];
        final int[] bone = new int[MOST_LIMBS];
        final int[] weight = new int[MOST_LIMBS];
        final int[] strength = new int[MOST_STRINGS];
        final int[] beatLift = new int[MOST_BEATS];
        final int[] beatTilt = new int[MOST_BEATS];
        final Pose first = new Pose();
        int limbs;
        int strings;
        int beats;
        private final int[] bonesBetween = new int[MOST_LIMBS * MOST_LIMBS];

        void empty() {
            limbs = 0;
            strings = 0;
            beats = 0;
            first.empty();
        }

        void copyFrom(Doll other) {
            System.arraycopy(other.parent, 0, parent, 0, MOST_LIMBS);
            System.arraycopy(other.bone, 0, bone, 0, MOST_LIMBS);
            System.arraycopy(other.weight, 0, weight, 0, MOST_LIMBS);
            System.arraycopy(other.strength, 0, strength, 0, MOST_STRINGS);
            System.arraycopy(other.beatLift, 0, beatLift, 0, MOST_BEATS);
            System.arraycopy(other.beatTilt, 0, beatTilt, 0, MOST_BEATS);
            System.arraycopy(other.bonesBetween, 0, bonesBetween, 0, bonesBetween.length);
            first.copyFrom(other.first);
            limbs = other.limbs;
            strings = other.strings;
            beats = other.beats;
        }

        void addLimb(int parentLimb, int toParent, int heavy) {
            int l = limbs;
            parent[l] = parentLimb;
            bone[l] = toParent;
            weight[l] = heavy;
            for (int k = 0; k < l; k++) {
                // The way to any limb told ahead goes over the parent, for limbs come one behind another.
                int between = toParent + apart(parentLimb, k);
                bonesBetween[l * MOST_LIMBS + k] = between;
                bonesBetween[k * MOST_LIMBS + l] = between;
            }
            bonesBetween[l * MOST_LIMBS + l] = 0;
            limbs++;
        }

        void addString(int l, int hole, int length, int strong) {
            first.setLimb(strings, l);
            first.setHole(strings, hole);
            first.setLength(strings, length);
            strength[strings] = strong;
            strings++;
        }

        void addBeat(int lift, int tilt) {
            beatLift[beats] = lift;
            beatTilt[beats] = tilt;
            beats++;
        }

        int apart(int l, int k) {
            return bonesBetween[l * MOST_LIMBS + k];
        }

        void moveToBeat(Pose pose, int b) {
            pose.setLift(beatLift[b]);
            pose.setTilt(beatTilt[b]);
        }

        /** How high one string alone would have a limb; 0 or less: it leaves it on the ground. */
        private int pull(Pose pose, int s, int l) {
            return pose.isCut(s) ? 0 : pose.endOf(s) - apart(pose.limbOf(s), l);
        }

        int height(Pose pose, int l) {
            int highest = 0;
            for (int s = 0; s < strings; s++) {
                highest = Math.max(highest, pull(pose, s, l));
            }
            return highest;
        }

        int bearer(Pose pose, int l) {
            int highest = 0;
            int by = NONE;
            for (int s = 0; s < strings; s++) {
                int pulled = pull(pose, s, l);
                if (pulled > highest) {
                    highest = pulled;
                    by = s;
                }
            }
            return by;
        }

        /** The strings each of which alone would have a limb off the ground, as bits. */
        int lifters(Pose pose, int l) {
            int bits = 0;
            for (int s = 0; s < strings; s++) {
                if (pull(pose, s, l) > 0) {
                    bits |= 1 << s;
                }
            }
            return bits;
        }

        boolean isTaut(Pose pose, int s) {
            int end = pose.endOf(s);
            return !pose.isCut(s) && end > 0 && height(pose, pose.limbOf(s)) == end;
        }

        int taut(Pose pose) {
            int bits = 0;
            for (int s = 0; s < strings; s++) {
                if (isTaut(pose, s)) {
                    bits |= 1 << s;
                }
            }
            return bits;
        }

        int load(Pose pose, int s) {
            int heavy = 0;
            for (int l = 0; l < limbs; l++) {
                if (bearer(pose, l) == s) {
                    heavy += weight[l];
                }
            }
            return heavy;
        }

        int mostOverloaded(Pose pose) {
            int most = 0;
            int which = NONE;
            for (int s = 0; s < strings; s++) {
                int above = load(pose, s) - strength[s];
                if (above > most) {
                    most = above;
                    which = s;
                }
            }
            return which;
        }

        int grounded(Pose pose) {
            int bits = 0;
            for (int l = 0; l < limbs; l++) {
                if (height(pose, l) == 0) {
                    bits |= 1 << l;
                }
            }
            return bits;
        }

        boolean groundsJust(Pose pose, int set) {
            for (int l = 0; l < limbs; l++) {
                boolean wanted = (set >> l & 1) == 1;
                if ((height(pose, l) == 0) != wanted) {
                    return false;
                }
            }
            return true;
        }

        int heightsTogether(Pose pose) {
            int sum = 0;
            for (int l = 0; l < limbs; l++) {
                sum += height(pose, l);
            }
            return sum;
        }

        boolean hangsAlike(Pose one, Pose other) {
            for (int l = 0; l < limbs; l++) {
                if (height(one, l) != height(other, l)) {
                    return false;
                }
            }
            return true;
        }

        int crossings(Pose pose) {
            int crossed = 0;
            for (int s = 0; s < strings; s++) {
                for (int t = 0; t < strings; t++) {
                    boolean whole = !pose.isCut(s) && !pose.isCut(t);
                    boolean lowerHole = pose.holeOf(s) < pose.holeOf(t);
                    if (whole && lowerHole && pose.limbOf(s) > pose.limbOf(t)) {
                        crossed++;
                    }
                }
            }
            return crossed;
        }
    }

    /** THE TEXT, and how it is read token by token. */
    private static final class Script {
        private static final int MOST_BYTES = 170, MOST_NUMBER = 99, MOST_TOLD = 4;
        private static final int AT_END = 0, LETTERS = 1, NUMBER = 2, SEMICOLON = 3, WRONG = 4;
        private static final int FAULT = -10;

        private final char[] bytes = new char[MOST_BYTES];
        private int size;
        /** The token at hand: which sort it is of, where it begins, where the next may begin, a number's value. */
        private int sort;
        private int begin;
        private int end;
        private int value;
        private final int[] told = new int[MOST_TOLD];
        private boolean liftTold;
        private boolean tiltTold;

        int size() {
            return size;
        }

        boolean add(int c) {
            if (size >= MOST_BYTES) {
                return false;
            }
            bytes[size] = (char) c;
            size++;
            return true;
        }

        int empty() {
            int had = size;
            size = 0;
            return had;
        }

        /** How many items there are, or the fault's number; the doll is of use only in the first case. */
        int readInto(Doll doll) {
            doll.empty();
            liftTold = false;
            tiltTold = false;
            end = 0;
            nextToken();
            int items = 0;
            while (sort != AT_END && items < MOST_BYTES) {
                if (!readItem(doll)) {
                    return FAULT - begin;
                }
                items++;
            }
            return items;
        }

        /** False: the token at hand can't stand where it does. */
        private boolean readItem(Doll doll) {
            if (sort != LETTERS || end - begin != 1) {
                return false;
            }
            int item = bytes[begin];
            if (!mayBegin(item, doll)) {
                return false;
            }
            nextToken();
            int numbers = howManyNumbers(item);
            for (int i = 0; i < numbers; i++) {
                if (sort != NUMBER || value < least(item, i, doll) || value > most(item, i, doll)) {
                    return false;
                }
                told[i] = value;
                nextToken();
            }
            if (sort != SEMICOLON) {
                return false;
            }
            nextToken();
            tell(item, doll);
            return true;
        }

        private boolean mayBegin(int item, Doll doll) {
            switch (item) {
                case 'l': return doll.limbs < MOST_LIMBS;
                case 's': return doll.strings < MOST_STRINGS;
                case 'b': return doll.beats < MOST_BEATS;
                case 'u': return !liftTold;
                case 't': return !tiltTold;
                default: return false;
            }
        }

        private static int howManyNumbers(int item) {
            switch (item) {
                case 'l': return 3;
                case 's': return 4;
                case 'b': return 2;
                default: return 1;
            }
        }

        private static int least(int item, int i, Doll doll) {
            if (item == 'l') {
                boolean boneOfFirst = i == 1 && doll.limbs == 0;
                return i == 0 || boneOfFirst ? 0 : 1;
            }
            return item == 's' && i == 3 ? 1 : 0;
        }

        private static int most(int item, int i, Doll doll) {
            switch (item) {
                case 'l': return mostOfLimb(i, doll);
                case 's': return mostOfString(i, doll);
                case 'b': return i == 0 ? MOST_LIFT : 2 * MOST_TILT;
                case 'u': return MOST_LIFT;
                default: return 2 * MOST_TILT;
            }
        }

        private static int mostOfLimb(int i, Doll doll) {
            if (i == 2) {
                return MOST_WEIGHT;
            }
            if (doll.limbs == 0) {
                return 0;
            }
            return i == 0 ? doll.limbs - 1 : MOST_BONE;
        }

        private static int mostOfString(int i, Doll doll) {
            switch (i) {
                case 0: return doll.limbs - 1;
                case 1: return MOST_HOLE;
                case 2: return MOST_LENGTH;
                default: return MOST_STRENGTH;
            }
        }

        private void tell(int item, Doll doll) {
            switch (item) {
                case 'l':
                    doll.addLimb(told[0], told[1], told[2]);
                    break;
                case 's':
                    doll.addString(told[0], told[1], told[2], told[3]);
                    break;
                case 'b':
                    doll.addBeat(told[0], told[1] - MOST_TILT);
                    break;
                case 'u':
                    doll.first.setLift(told[0]);
                    liftTold = true;
                    break;
                default:
                    doll.first.setTilt(told[0] - MOST_TILT);
                    tiltTold = true;
                    break;
            }
        }

        private void nextToken() {
            begin = end;
            while (begin < size && bytes[begin] == ' ') {
                begin++;
            }
            end = begin;
            if (begin >= size) {
                sort = AT_END;
            } else if (isLetter(begin)) {
                takeLetters();
            } else if (isDigit(begin)) {
                takeNumber();
            } else {
                sort = bytes[begin] == ';' ? SEMICOLON : WRONG;
                end++;
            }
        }

        private void takeLetters() {
            sort = LETTERS;
            while (end < size && isLetter(end)) {
                end++;
            }
        }

        private void takeNumber() {
            value = 0;
            while (end < size && isDigit(end)) {
                // Held at one above the greatest number, for so many digits would go beyond an int.
                value = Math.min(value * 10 + bytes[end] - '0', MOST_NUMBER + 1);
                end++;
            }
            boolean zeroAhead = bytes[begin] == '0' && end - begin > 1;
            sort = zeroAhead || value > MOST_NUMBER ? WRONG : NUMBER;
        }

        private boolean isLetter(int place) {
            return bytes[place] >= 'a' && bytes[place] <= 'z';
        }

        private boolean isDigit(int place) {
            return bytes[place] >= '0' && bytes[place] <= '9';
        }
    }

    /** What was seen, and which single change would make it so. */
    private static final class Sight {
        private static final int MOST_SEEN = 6;
        /** The guess, behind one for each string, that nothing was cut. */
        private static final int AS_IT_IS = MOST_STRINGS;
        private static final int GUESSES = MOST_STRINGS + 1;

        private final int[] limbs = new int[MOST_SEEN];
        private final int[] heights = new int[MOST_SEEN];
        private final int[] guessed = new int[GUESSES];
        private final Pose trial = new Pose();
        private int size;

        int size() {
            return size;
        }

        boolean add(int l, int height) {
            if (size >= MOST_SEEN) {
                return false;
            }
            limbs[size] = l;
            heights[size] = height;
            size++;
            return true;
        }

        int empty() {
            int had = size;
            size = 0;
            return had;
        }

        private boolean allIsSo(Doll doll, Pose pose) {
            for (int i = 0; i < size; i++) {
                if (doll.height(pose, limbs[i]) != heights[i]) {
                    return false;
                }
            }
            return true;
        }

        private void tryGuess(Pose now, int guess) {
            trial.copyFrom(now);
            if (guess != AS_IT_IS) {
                trial.setCut(now.cut() | 1 << guess);
            }
        }

        int suspected(Doll doll, Pose now) {
            int bits = 0;
            for (int guess = 0; guess < GUESSES; guess++) {
                boolean mayBe = guess == AS_IT_IS || guess < doll.strings && !now.isCut(guess);
                tryGuess(now, guess);
                if (mayBe && allIsSo(doll, trial)) {
                    bits |= 1 << guess;
                }
            }
            return bits;
        }

        int fittingHoles(Doll doll, Pose now, int s) {
            int bits = 0;
            trial.copyFrom(now);
            for (int hole = 0; hole < HOLES; hole++) {
                trial.setHole(s, hole);
                if (allIsSo(doll, trial)) {
                    bits |= 1 << hole;
                }
            }
            return bits;
        }

        int limbToLookAt(Doll doll, Pose now) {
            int bits = suspected(doll, now);
            if (bits == 0) {
                return NONE;
            }
            int least = GUESSES + 1;
            int best = NONE;
            for (int l = 0; l < doll.limbs; l++) {
                int left = mostLeft(doll, now, l, bits);
                if (left < least) {
                    least = left;
                    best = l;
                }
            }
            return best;
        }

        /** How many of the suspects a look at this limb may leave, at worst. */
        private int mostLeft(Doll doll, Pose now, int l, int bits) {
            int tried = 0;
            for (int guess = 0; guess < GUESSES; guess++) {
                if ((bits >> guess & 1) == 1) {
                    tryGuess(now, guess);
                    guessed[tried] = doll.height(trial, l);
                    tried++;
                }
            }
            int most = 0;
            for (int i = 0; i < tried; i++) {
                most = Math.max(most, howManyGuessed(guessed[i], tried));
            }
            return most;
        }

        private int howManyGuessed(int height, int tried) {
            int like = 0;
            for (int i = 0; i < tried; i++) {
                if (guessed[i] == height) {
                    like++;
                }
            }
            return like;
        }
    }

    /** The order of all beats with the least moves. */
    private static final class Order {
        /** By the set of beats played and the last of them: the least moves for all the others. */
        private final int[] toGo = new int[(1 << MOST_BEATS) * MOST_BEATS];
        private final int[] found = new int[MOST_BEATS];
        private int moves;

        int moves() {
            return moves;
        }

        int beatAt(int i) {
            return found[i];
        }

        void plan(Doll doll, Pose now) {
            fillToGo(doll);
            moves = 0;
            int played = 0;
            int lift = now.lift();
            int tilt = now.tilt();
            for (int i = 0; i < doll.beats; i++) {
                int b = bestNext(doll, played, lift, tilt);
                if (b == NONE) {
                    return;
                }
                moves += movesTo(doll, b, lift, tilt);
                found[i] = b;
                played |= 1 << b;
                lift = doll.beatLift[b];
                tilt = doll.beatTilt[b];
            }
        }

        private void fillToGo(Doll doll) {
            for (int played = (1 << doll.beats) - 1; played > 0; played--) {
                for (int last = 0; last < doll.beats; last++) {
                    int lift = doll.beatLift[last];
                    int tilt = doll.beatTilt[last];
                    int b = bestNext(doll, played, lift, tilt);
                    toGo[played * MOST_BEATS + last] = b == NONE ? 0 : through(doll, played, b, lift, tilt);
                }
            }
        }

        /** The lowest of the best beats to play next; NONE: all are played. */
        private int bestNext(Doll doll, int played, int lift, int tilt) {
            int best = NONE;
            int least = 0;
            for (int b = 0; b < doll.beats; b++) {
                if ((played >> b & 1) == 0) {
                    int all = through(doll, played, b, lift, tilt);
                    if (best == NONE || all < least) {
                        best = b;
                        least = all;
                    }
                }
            }
            return best;
        }

        private int through(Doll doll, int played, int b, int lift, int tilt) {
            return movesTo(doll, b, lift, tilt) + toGo[(played | 1 << b) * MOST_BEATS + b];
        }

        private static int movesTo(Doll doll, int b, int lift, int tilt) {
            return Math.abs(doll.beatLift[b] - lift) + Math.abs(doll.beatTilt[b] - tilt);
        }
    }

    /** Marks of a limb as if of a kind; each kind's body asks that of the kind above it. */
    private static final class Kinds {
        private long trace;

        long asked() {
            return trace;
        }

        int asLimb(Doll doll, Pose now, int l) {
            trace += 1;
            return doll.height(now, l);
        }

        int asHead(Doll doll, Pose now, int l) {
            trace += 10;
            return asLimb(doll, now, l) + doll.weight[l];
        }

        int asFoot(Doll doll, Pose now, int l) {
            trace += 100;
            return asLimb(doll, now, l) - doll.bone[l];
        }

        int asCrown(Doll doll, Pose now, int l) {
            trace += 1000;
            return asHead(doll, now, l) * 2;
        }

        int asToe(Doll doll, Pose now, int l) {
            trace += 10000;
            return asFoot(doll, now, l) + l;
        }

        int asHand(Doll doll, Pose now, int l) {
            trace += 100000;
            return asLimb(doll, now, l) + now.lift();
        }
    }
}
