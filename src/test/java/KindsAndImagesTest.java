/** Promises 29 to 33: marks by kinds, the trace, images and counts. */
public final class KindsAndImagesTest {
    private static final Check CHECK = new Check("KindsAndImagesTest");
    private static final int BAD = PuppetBar.BAD, STATE = PuppetBar.STATE, NO = PuppetBar.NO;

    public static void main(String[] args) {
        marks();
        marksBelowZero();
        trace();
        keeping();
        goingBack();
        imagesKeepWhatMayBeUndone();
        imagesKeepNothingElse();
        counts();
        CHECK.end();
    }

    private static void marks() {
        // Limb 2: height 20 - 8 - 3 - 2 = 7, weight 6, bone 2, lift 20.
        PuppetBar bar = Check.told("l0 0 2;l0 3 4;l1 2 6;s0 3 8 9;");
        int[] due = {7, 13, 5, 26, 7, 27};
        for (int kind = 0; kind <= 5; kind++) {
            CHECK.due("limb 2 as " + kind, bar.mark(kind, 2), due[kind]);
        }
        int[] first = {12, 14, 12, 28, 12, 32};
        for (int kind = 0; kind <= 5; kind++) {
            CHECK.due("limb 0 as " + kind, bar.mark(kind, 0), first[kind]);
        }
    }

    private static void marksBelowZero() {
        PuppetBar bar = Check.told("l0 0 2;l0 9 4;");
        CHECK.due("a foot on the ground", bar.mark(2, 1), -9);
        CHECK.due("a toe on the ground", bar.mark(4, 1), -8);
        CHECK.due("no such kind", bar.mark(6, 0), NO);
        CHECK.due("no such kind", bar.mark(-1, 0), NO);
        CHECK.due("no such limb", bar.mark(0, 2), NO);
        CHECK.due("no such limb", bar.mark(0, -1), NO);
    }

    private static void trace() {
        PuppetBar bar = Check.told("l0 0 2;l0 3 4;s0 3 8 9;");
        long[] bodies = {1, 11, 101, 1011, 10101, 100001};
        long sum = 0;
        CHECK.due("nothing yet", bar.trace(), 0);
        for (int kind = 0; kind <= 5; kind++) {
            bar.mark(kind, 1);
            sum += bodies[kind];
            CHECK.due("trace behind " + kind, bar.trace(), sum);
        }
        bar.mark(6, 0);
        bar.mark(0, 2);
        CHECK.due("nothing by what is refused", bar.trace(), sum);
        bar.lifts(1);
        bar.undo();
        bar.limb(0, 3);
        CHECK.due("nothing by other calls", bar.trace(), sum);
        for (int i = 0; i < 100; i++) {
            bar.mark(5, 0);
        }
        CHECK.due("as often as asked", bar.trace(), sum + 10000100L);
    }

    private static void keeping() {
        PuppetBar bar = Check.told("l0 0 2;s0 3 8 9;u31;");
        CHECK.due("no such image", bar.keep(2), BAD);
        CHECK.due("no such image", bar.keep(-1), BAD);
        CHECK.due("none was kept", bar.back(0), STATE);
        CHECK.due("keep", bar.keep(1), 31);
        CHECK.due("none was kept in 0", bar.back(0), STATE);
        bar.lifts(2);
        CHECK.due("keep", bar.keep(0), 33);
        CHECK.due("it is no step", bar.count(4), 1);
        CHECK.due("no such image", bar.back(2), BAD);
        CHECK.due("no such image", bar.back(-1), BAD);
        CHECK.due("back", bar.back(1), 31);
        CHECK.due("back", bar.back(0), 33);
        bar.lifts(1);
        bar.keep(1);
        bar.lifts(1);
        CHECK.due("kept over", bar.back(1), 34);
    }

    private static void goingBack() {
        PuppetBar bar = Check.told("l0 0 2;l0 3 4;s0 3 8 9;s1 5 15 3;b9 1;");
        bar.cuts(0);
        bar.keep(0);
        bar.beats(0);
        bar.ties(0, 1, 3);
        bar.hangs(0, 6);
        bar.cuts(1);
        CHECK.due("back", bar.back(0), 20);
        CHECK.due("tilt", bar.now(1), 0);
        CHECK.due("cut", bar.now(2), 1);
        CHECK.due("limb", bar.string(0, 0), 0);
        CHECK.due("hole", bar.string(0, 1), 3);
        CHECK.due("length", bar.string(0, 2), 8);
        bar.ties(0, 1, 3);
        CHECK.due("back once more", bar.back(0), 20);
        CHECK.due("length", bar.string(0, 2), 8);
        CHECK.due("cut", bar.now(2), 1);
    }

    private static void imagesKeepWhatMayBeUndone() {
        PuppetBar bar = Check.told("l0 0 2;s0 3 8 9;");
        bar.lifts(1);
        bar.lifts(2);
        bar.keep(0);
        bar.undo();
        bar.tilts(3);
        bar.tilts(2);
        bar.tilts(1);
        CHECK.due("back", bar.back(0), 23);
        CHECK.due("known", bar.count(4), 2);
        CHECK.due("undo", bar.undo(), 1);
        CHECK.due("lift", bar.now(0), 21);
        CHECK.due("undo", bar.undo(), 0);
        CHECK.due("lift", bar.now(0), 20);
        CHECK.due("none", bar.undo(), STATE);
        CHECK.due("the image has them still", bar.back(0), 23);
        CHECK.due("known", bar.count(4), 2);
        bar.tilts(1);
        bar.keep(1);
        for (int i = 0; i < 13; i++) {
            bar.lifts(1);
        }
        bar.back(1);
        CHECK.due("undo", bar.undo(), 2);
        CHECK.due("tilt", bar.now(1), 0);
        CHECK.due("undo", bar.undo(), 1);
        CHECK.due("lift", bar.now(0), 21);
    }

    private static void imagesKeepNothingElse() {
        PuppetBar bar = Check.told("l0 0 2;s0 3 8 9;");
        bar.saw(0, 3);
        bar.mark(0, 0);
        bar.keep(0);
        bar.saw(0, 4);
        bar.mark(0, 0);
        bar.type(' ');
        bar.back(0);
        CHECK.due("seen", bar.count(3), 2);
        CHECK.due("trace", bar.trace(), 2);
        CHECK.due("bytes", bar.count(5), 1);
    }

    private static void counts() {
        PuppetBar bar = Check.told("l0 0 2;l0 3 4;l0 3 4;s0 3 8 9;s1 5 15 3;b9 1;");
        bar.saw(0, 3);
        bar.lifts(1);
        bar.lifts(1);
        bar.type('l');
        bar.type('l');
        bar.type('l');
        int[] due = {3, 2, 1, 1, 2, 3};
        for (int what = 0; what <= 5; what++) {
            CHECK.due("count(" + what + ")", bar.count(what), due[what]);
        }
        CHECK.due("no such what", bar.count(6), BAD);
        CHECK.due("no such what", bar.count(-1), BAD);
    }
}
