/**
 * Each answer is of NOW, not of what was told first: a puppet that was moved, cut, tied, hung, held or undone into some
 * pose answers all as one does whose text tells that pose at once (and whose strings are cut then).
 */
public final class AsNowTest {
    private static final Check CHECK = new Check("AsNowTest");
    private static final String LIMBS = "l0 0 5;l0 3 2;l0 4 3;l1 2 1;l2 5 4;l2 1 9;";
    private static final String STRINGS = "s0 3 8 9;s1 1 5 3;s4 6 7 9;s3 0 9 8;";
    private static final String BEATS = "b9 3;b30 1;b20 6;b12 0;b26 2;";
    private static final String TEXT = LIMBS + STRINGS + BEATS + "u18;t4;";
    /** What is another, though the pose is the same. */
    private static final String[] NOT_OF_THE_POSE = {"PUPPET count 4", "STEPS", "IMAGE"};

    public static void main(String[] args) {
        lifted();
        tilted();
        cutAndTied();
        hung();
        held();
        beat();
        undone();
        keptAndBack();
        allOfThem();
        byHand();
        CHECK.end();
    }

    /** Told first and then done is as told at once, whatever of these limbs was seen. */
    private static void like(Twins.Deeds done, String told, int... cut) {
        int[][] seen = {{}, {0, 10}, {1, 0}, {5, 7}, {0, 12, 1, 12}};
        for (int[] heights : seen) {
            Twins.compare(CHECK, "as if '" + told + "' were told", bar -> {
                CHECK.isTrue("it has no fault", Check.read(bar, TEXT) >= 0);
                done.on(bar);
                saw(bar, heights);
            }, bar -> {
                CHECK.isTrue("it has no fault", Check.read(bar, told) >= 0);
                for (int s : cut) {
                    bar.cuts(s);
                }
                saw(bar, heights);
            }, NOT_OF_THE_POSE);
        }
    }

    private static void saw(PuppetBar bar, int[] heights) {
        for (int i = 0; i + 1 < heights.length; i += 2) {
            bar.saw(heights[i], heights[i + 1]);
        }
    }

    private static void lifted() {
        CHECK.sentence("LIFTED by n: all is as at that LIFT");
        like(bar -> bar.lifts(5), LIMBS + STRINGS + BEATS + "u23;t4;");
        like(bar -> bar.lifts(-5), LIMBS + STRINGS + BEATS + "u13;t4;");
    }

    private static void tilted() {
        CHECK.sentence("TILTED to another TILT: all is as at that TILT");
        like(bar -> bar.tilts(-3), LIMBS + STRINGS + BEATS + "u18;t0;");
        like(bar -> bar.tilts(3), LIMBS + STRINGS + BEATS + "u18;t6;");
    }

    private static void cutAndTied() {
        CHECK.sentence("TIED: a CUT STRING is so no more, with a LIMB and a LENGTH");
        like(bar -> {
            bar.cuts(1);
            bar.ties(1, 5, 2);
        }, LIMBS + "s0 3 8 9;s5 1 2 3;s4 6 7 9;s3 0 9 8;" + BEATS + "u18;t4;");
        like(bar -> {
            bar.cuts(0);
            bar.cuts(3);
            bar.ties(0, 4, 40);
        }, LIMBS + "s4 3 40 9;s1 1 5 3;s4 6 7 9;s3 0 9 8;" + BEATS + "u18;t4;", 3);
    }

    private static void hung() {
        CHECK.sentence("HUNG: a STRING (CUT ones, too) into another HOLE");
        like(bar -> bar.hangs(1, 6), LIMBS + "s0 3 8 9;s1 6 5 3;s4 6 7 9;s3 0 9 8;" + BEATS + "u18;t4;");
        like(bar -> {
            bar.cuts(2);
            bar.hangs(2, 0);
        }, LIMBS + "s0 3 8 9;s1 1 5 3;s4 0 7 9;s3 0 9 8;" + BEATS + "u18;t4;", 2);
    }

    private static void held() {
        CHECK.sentence("HELD: all is as with these STRINGS CUT");
        // String 2 bears 16, then string 0 21, then string 1 20; then string 3 bears 8, just its strength.
        like(bar -> CHECK.due("held", bar.holds(), 3), TEXT, 0, 1, 2);
    }

    private static void beat() {
        CHECK.sentence("BEAT: LIFT and TILT become a BEAT's");
        like(bar -> bar.beats(1), LIMBS + STRINGS + BEATS + "u30;t1;");
        like(bar -> bar.beats(3), LIMBS + STRINGS + BEATS + "u12;t0;");
    }

    private static void undone() {
        CHECK.sentence("UNDONE: all is as ahead of it");
        like(bar -> {
            bar.hangs(0, 5);
            bar.beats(1);
            bar.cuts(1);
            bar.undo();
        }, LIMBS + "s0 5 8 9;s1 1 5 3;s4 6 7 9;s3 0 9 8;" + BEATS + "u30;t1;");
    }

    private static void keptAndBack() {
        CHECK.sentence("All of that becomes as an IMAGE has it");
        like(bar -> {
            bar.hangs(0, 5);
            bar.lifts(3);
            bar.cuts(2);
            bar.keep(1);
            bar.ties(2, 0, 0);
            bar.hangs(3, 6);
            bar.beats(0);
            bar.back(1);
        }, LIMBS + "s0 5 8 9;s1 1 5 3;s4 6 7 9;s3 0 9 8;" + BEATS + "u21;t4;", 2);
    }

    private static void allOfThem() {
        CHECK.sentence("NOW (LIFT, TILT, of STRINGS what is CUT, LIMBS, HOLES, LENGTHS)");
        like(bar -> {
            bar.lifts(4);
            bar.tilts(-1);
            bar.cuts(3);
            bar.ties(3, 2, 6);
            bar.hangs(3, 5);
            bar.hangs(0, 1);
            bar.cuts(1);
        }, LIMBS + "s0 1 8 9;s1 1 5 3;s4 6 7 9;s2 5 6 8;" + BEATS + "u22;t2;", 1);
    }

    /** The same by hand for what is easily taken from the first pose: marks, NODS, NEED and LOOK. */
    private static void byHand() {
        CHECK.sentence("MARK, NODS, NEED, LOOK: as NOW");
        PuppetBar bar = Check.told("l0 0 3;l0 2 4;s0 3 10 9;s1 6 9 9;b20 5;b20 4;b20 5;");
        // At 20 the strings end at 10 and 11: limb 0 is at 10, limb 1 at 11; at tilt 2 limb 1 is at 17.
        CHECK.due("need", bar.now(6), 3);
        CHECK.due("nods", bar.nods(1), 1);
        CHECK.due("hand", bar.mark(5, 1), 31);
        bar.tilts(2);
        CHECK.due("limb 1", bar.mark(0, 1), 17);
        CHECK.due("head", bar.mark(1, 1), 21);
        CHECK.due("foot", bar.mark(2, 1), 15);
        CHECK.due("crown", bar.mark(3, 1), 42);
        CHECK.due("toe", bar.mark(4, 1), 16);
        CHECK.due("hand", bar.mark(5, 1), 37);
        CHECK.due("string 1 alone has limb 0 at 15", bar.now(6), 2);
        bar.lifts(5);
        CHECK.due("hand, 5 higher by height and by lift", bar.mark(5, 1), 47);
        bar.hangs(1, 3);
        // In hole 3 no tilt moves string 1: it ends at 16 now, and at 11 at each beat.
        CHECK.due("nods no more", bar.nods(1), 0);
        CHECK.due("limb 0 is at 15, limb 1 at 16", bar.now(6), 3);
        CHECK.due("either limb parts one string from the rest", bar.look(), 0);
        bar.cuts(0);
        CHECK.due("either limb parts the two that are left", bar.look(), 0);
        bar.lifts(-5);
        bar.lifts(-5);
        bar.lifts(-5);
        // String 1 ends at 1: limb 0 is on the ground with it and without it.
        CHECK.due("limb 1 alone parts them", bar.look(), 1);
    }
}
