/** Each boundary that the document names for kinds, images, counts and the trace: promises 29 to 33. */
public final class EdgesOfKindsAndImagesTest {
    private static final Check CHECK = new Check("EdgesOfKindsAndImagesTest");
    private static final int BAD = PuppetBar.BAD, STATE = PuppetBar.STATE, NO = PuppetBar.NO;
    private static final int LEAST = Integer.MIN_VALUE, MOST = Integer.MAX_VALUE;
    /** Eight limbs in a chain of bones of 1. */
    private static final String CHAIN = "l0 0 1;l0 1 1;l1 1 1;l2 1 1;l3 1 1;l4 1 1;l5 1 1;l6 1 1;";

    public static void main(String[] args) {
        kindsThereAre();
        marksOfLimbsThereAre();
        marksOfTheFirstAndTheLast();
        marksBelowZero();
        marksAtTheGreatest();
        traceAtFirst();
        traceOfEachKind();
        traceOfRefusedMarks();
        traceStays();
        imagesThereAre();
        imagesNotKept();
        imagesApart();
        imagesKeptOver();
        imagesOfANewObject();
        imagesHaveAllOfNow();
        imagesHaveWhatMayBeUndone();
        imagesHaveNothingElse();
        imagesAreGone();
        imagesAreNoStep();
        imagesAreNotUndone();
        whatIsCounted();
        countsAtLeastAndAtMost();
        CHECK.end();
    }

    private static void kindsThereAre() {
        CHECK.sentence("KINDS: 0 .. 5. mark: NO: BAD");
        PuppetBar bar = Check.told("l0 0 3;l0 4 5;s1 3 1 2;");
        // Limb 1 is at 19, of weight 5 and bone 4; the lift is 20.
        int[] due = {19, 24, 15, 48, 16, 39};
        for (int kind = 0; kind <= 5; kind++) {
            CHECK.due("mark(" + kind + ", 1)", bar.mark(kind, 1), due[kind]);
        }
        for (int kind : new int[] {-1, 6, LEAST, MOST}) {
            CHECK.due("mark(" + kind + ", 1)", bar.mark(kind, 1), NO);
            CHECK.due("mark(" + kind + ", 2)", bar.mark(kind, 2), NO);
        }
    }

    private static void marksOfLimbsThereAre() {
        CHECK.sentence("mark: NO: BAD (there is no such thing)");
        for (int n = 0; n <= 8; n++) {
            PuppetBar bar = Check.told(CHAIN.substring(0, 7 * n));
            for (int kind = 0; kind <= 5; kind++) {
                for (int l : new int[] {-1, n, LEAST, MOST}) {
                    CHECK.due("mark(" + kind + ", " + l + ") of " + n, bar.mark(kind, l), NO);
                }
                if (n > 0) {
                    CHECK.isTrue("the first", bar.mark(kind, 0) != NO);
                    CHECK.isTrue("the last", bar.mark(kind, n - 1) != NO);
                }
            }
        }
    }

    private static void marksOfTheFirstAndTheLast() {
        CHECK.sentence("FOOT up less its BONE. TOE up, and its number");
        PuppetBar bar = Check.told(CHAIN + "s0 3 0 1;");
        CHECK.due("the first has no bone", bar.mark(2, 0), 20);
        CHECK.due("the first's number is 0", bar.mark(4, 0), 20);
        CHECK.due("the last as a foot", bar.mark(2, 7), 12);
        CHECK.due("the last as a toe", bar.mark(4, 7), 19);
    }

    private static void marksBelowZero() {
        CHECK.sentence("NO: What none is, where a number may be below 0");
        PuppetBar bar = Check.told("l0 0 1;l0 9 1;l0 1 1;");
        CHECK.due("a foot on the ground", bar.mark(2, 1), -9);
        CHECK.due("a foot on the ground", bar.mark(2, 2), -1);
        CHECK.due("a toe on the ground", bar.mark(4, 1), -8);
        CHECK.due("a toe on the ground", bar.mark(4, 2), 1);
        CHECK.due("a hand at lift 0", Check.told("l0 0 1;u0;").mark(5, 0), 0);
    }

    private static void marksAtTheGreatest() {
        CHECK.sentence("MARK of a LIMB as if of a KIND: at the greatest HEIGHT");
        PuppetBar bar = Check.told("l0 0 9;s0 6 0 1;u40;t6;");
        int[] due = {49, 58, 49, 116, 49, 89};
        for (int kind = 0; kind <= 5; kind++) {
            CHECK.due("mark(" + kind + ", 0)", bar.mark(kind, 0), due[kind]);
        }
    }

    private static void traceAtFirst() {
        CHECK.sentence("THE TRACE: as often as mark() asks that body: never");
        CHECK.due("a new one", new PuppetBar().trace(), 0);
        PuppetBar bar = new PuppetBar();
        Twins.busy(bar);
        CHECK.due("a crown asked once", bar.trace(), 1011);
        CHECK.due("asked for it twice", bar.trace(), 1011);
    }

    private static void traceOfEachKind() {
        CHECK.sentence("numbers in brackets come to THE TRACE as often as mark() asks that body");
        long[] due = {1, 11, 101, 1011, 10101, 100001};
        for (int kind = 0; kind <= 5; kind++) {
            PuppetBar bar = Check.told("l0 0 1;");
            for (int times = 1; times <= 12; times++) {
                bar.mark(kind, 0);
                CHECK.due("kind " + kind + ", asked " + times, bar.trace(), due[kind] * times);
            }
        }
    }

    private static void traceOfRefusedMarks() {
        CHECK.sentence("Refused, and nothing changes: THE TRACE");
        PuppetBar bar = Check.told("l0 0 1;");
        int[][] bad = {{-1, 0}, {6, 0}, {0, -1}, {0, 1}, {5, 1}, {6, 1}};
        for (int[] n : bad) {
            bar.mark(n[0], n[1]);
            CHECK.due("trace behind mark(" + n[0] + ", " + n[1] + ")", bar.trace(), 0);
        }
    }

    private static void traceStays() {
        CHECK.sentence("IMAGES keep NOW; nothing else: THE TRACE stays");
        PuppetBar bar = Check.told("l0 0 1;");
        bar.keep(0);
        bar.lifts(1);
        bar.mark(5, 0);
        bar.undo();
        CHECK.due("behind undo", bar.trace(), 100001);
        bar.back(0);
        CHECK.due("behind back", bar.trace(), 100001);
        Check.read(bar, "x");
        CHECK.due("behind a fault", bar.trace(), 100001);
        Check.read(bar, "l0 0 1;");
        CHECK.due("behind a text", bar.trace(), 100001);
    }

    private static void imagesThereAre() {
        CHECK.sentence("IMAGES 0, 1. keep, back: BAD");
        PuppetBar bar = Check.told("u31;");
        for (int image : new int[] {-1, 2, LEAST, MOST}) {
            CHECK.due("keep(" + image + ")", bar.keep(image), BAD);
            CHECK.due("back(" + image + ")", bar.back(image), BAD);
        }
        for (int image = 0; image <= 1; image++) {
            CHECK.due("keep(" + image + ")", bar.keep(image), 31);
            CHECK.due("back(" + image + ")", bar.back(image), 31);
        }
        for (int image : new int[] {-1, 2, LEAST, MOST}) {
            CHECK.due("back(" + image + ") when both are kept", bar.back(image), BAD);
        }
    }

    private static void imagesNotKept() {
        CHECK.sentence("back: STATE: none was kept");
        for (int image = 0; image <= 1; image++) {
            PuppetBar bar = new PuppetBar();
            bar.lifts(1);
            CHECK.due("none", bar.back(image), STATE);
            CHECK.due("lift", bar.now(0), 21);
            bar.keep(1 - image);
            CHECK.due("not by the other", bar.back(image), STATE);
            bar.keep(image);
            CHECK.due("kept", bar.back(image), 21);
        }
    }

    private static void imagesApart() {
        CHECK.sentence("All of that becomes as an IMAGE has it: LIFT");
        PuppetBar bar = Check.told("u0;");
        CHECK.due("keep(0) at the least", bar.keep(0), 0);
        bar.lifts(5);
        CHECK.due("keep(1)", bar.keep(1), 5);
        bar.lifts(5);
        CHECK.due("back(0)", bar.back(0), 0);
        CHECK.due("back(1)", bar.back(1), 5);
        CHECK.due("back(1) again", bar.back(1), 5);
        CHECK.due("back(0)", bar.back(0), 0);
        CHECK.due("keep at the most", Check.told("u40;").keep(1), 40);
    }

    private static void imagesKeptOver() {
        CHECK.sentence("An IMAGE is kept: the latest");
        PuppetBar bar = Check.told("u0;");
        bar.keep(0);
        bar.lifts(3);
        CHECK.due("kept over", bar.keep(0), 3);
        bar.lifts(4);
        CHECK.due("back", bar.back(0), 3);
        bar.lifts(1);
        CHECK.due("what is done behind it is not in it", bar.back(0), 3);
        bar.undo();
        CHECK.due("nor what is undone", bar.back(0), 3);
        CHECK.due("its step is there", bar.count(4), 1);
    }

    private static void imagesOfANewObject() {
        CHECK.sentence("An IMAGE is kept: of no LIMBS, too");
        PuppetBar bar = new PuppetBar();
        CHECK.due("keep", bar.keep(1), 20);
        bar.lifts(5);
        bar.tilts(2);
        CHECK.due("back", bar.back(1), 20);
        CHECK.due("tilt", bar.now(1), 0);
        CHECK.due("steps", bar.count(4), 0);
        CHECK.due("undo", bar.undo(), STATE);
    }

    private static void imagesHaveAllOfNow() {
        CHECK.sentence("IMAGES keep NOW (LIFT, TILT, of STRINGS what is CUT, LIMBS, HOLES, LENGTHS, ..)");
        Twins.unchanged(CHECK, "back to a busy one", bar -> {
            Twins.busy(bar);
            bar.keep(1);
        }, bar -> {
            bar.beats(4);
            bar.cuts(5);
            bar.ties(5, 7, 40);
            bar.hangs(0, 0);
            bar.hangs(5, 6);
            bar.holds();
            bar.cuts(1);
            bar.undo();
            return bar.back(1);
        }, 19);
        Twins.unchanged(CHECK, "back to one where all is cut", bar -> {
            Check.read(bar, "l0 0 1;l0 1 1;" + "s0 3 0 1;".repeat(6));
            for (int s = 0; s < 6; s++) {
                bar.cuts(s);
            }
            bar.keep(0);
        }, bar -> {
            for (int s = 0; s < 6; s++) {
                bar.ties(s, 1, 40);
                bar.hangs(s, 6);
            }
            return bar.back(0);
        }, 20);
    }

    private static void lift(PuppetBar bar, int steps) {
        for (int i = 0; i < steps; i++) {
            bar.lifts(1);
        }
    }

    private static void imagesHaveWhatMayBeUndone() {
        CHECK.sentence("IMAGES keep .. what may be UNDONE (10 are known)");
        for (int steps = 0; steps <= 12; steps++) {
            for (int more = 0; more <= 12; more++) {
                PuppetBar bar = Check.told("u0;");
                lift(bar, steps);
                bar.keep(more % 2);
                lift(bar, more);
                CHECK.due("back", bar.back(more % 2), steps);
                int known = Math.min(steps, 10);
                CHECK.due("known", bar.count(4), known);
                for (int i = 1; i <= known; i++) {
                    CHECK.due("undo", bar.undo(), known - i);
                    CHECK.due("lift", bar.now(0), steps - i);
                }
                CHECK.due("none", bar.undo(), STATE);
                CHECK.due("back again", bar.back(more % 2), steps);
                CHECK.due("known", bar.count(4), known);
            }
        }
    }

    private static void imagesHaveNothingElse() {
        CHECK.sentence("IMAGES keep NOW; nothing else");
        PuppetBar bar = Check.told("l0 0 1;s0 3 0 1;");
        bar.saw(0, 1);
        bar.type('u');
        bar.mark(0, 0);
        bar.keep(0);
        bar.keep(1);
        bar.forget();
        bar.clear();
        bar.mark(0, 0);
        bar.lifts(1);
        bar.keep(1);
        bar.back(0);
        CHECK.due("seen", bar.count(3), 0);
        CHECK.due("bytes", bar.count(5), 0);
        CHECK.due("trace", bar.trace(), 2);
        CHECK.due("not the other image", bar.back(1), 21);
    }

    private static void imagesAreGone() {
        CHECK.sentence("(Read anew: IMAGES are gone.)");
        PuppetBar bar = new PuppetBar();
        bar.keep(0);
        bar.keep(1);
        bar.lifts(1);
        CHECK.due("fault", Check.read(bar, "u41;"), -11);
        CHECK.due("not by a fault", bar.back(0), 20);
        CHECK.due("not by a fault", bar.back(1), 20);
        CHECK.due("read", Check.read(bar, ""), 0);
        CHECK.due("gone", bar.back(0), STATE);
        CHECK.due("gone", bar.back(1), STATE);
        bar.keep(1);
        CHECK.due("kept anew", bar.back(1), 20);
        CHECK.due("gone still", bar.back(0), STATE);
    }

    private static void imagesAreNoStep() {
        CHECK.sentence("UNDONE: the latest LIFTED .. BEAT (no keep, no back)");
        PuppetBar bar = new PuppetBar();
        bar.keep(0);
        CHECK.due("steps behind keep", bar.count(4), 0);
        bar.lifts(1);
        bar.keep(1);
        CHECK.due("steps behind keep", bar.count(4), 1);
        bar.back(0);
        CHECK.due("steps behind back", bar.count(4), 0);
        CHECK.due("none", bar.undo(), STATE);
        bar.back(1);
        CHECK.due("its own step", bar.undo(), 0);
        CHECK.due("lift", bar.now(0), 20);
    }

    private static void imagesAreNotUndone() {
        CHECK.sentence("UNDONE: all is as ahead of it (IMAGES stay)");
        PuppetBar bar = new PuppetBar();
        bar.lifts(1);
        bar.keep(0);
        bar.undo();
        CHECK.due("kept still", bar.back(0), 21);
        CHECK.due("with its step", bar.count(4), 1);
    }

    private static void whatIsCounted() {
        CHECK.sentence("count: what 0 .. 5. BAD");
        PuppetBar bar = new PuppetBar();
        Twins.busy(bar);
        int[] due = {8, 6, 7, 2, 10, 2};
        for (int what = 0; what <= 5; what++) {
            CHECK.due("count(" + what + ")", bar.count(what), due[what]);
        }
        for (int what : new int[] {-1, 6, LEAST, MOST}) {
            CHECK.due("count(" + what + ")", bar.count(what), BAD);
        }
    }

    private static void countsAtLeastAndAtMost() {
        CHECK.sentence("count: of none, of all that may be");
        PuppetBar bar = new PuppetBar();
        for (int what = 0; what <= 5; what++) {
            CHECK.due("none: count(" + what + ")", bar.count(what), 0);
        }
        Check.read(bar, "l0 0 1;" + "l0 1 1;".repeat(7) + "s0 0 0 1;".repeat(6) + "b0 0;".repeat(7));
        for (int i = 0; i < 12; i++) {
            bar.holds();
            bar.saw(0, 0);
        }
        Check.type(bar, " ".repeat(171));
        int[] due = {8, 6, 7, 6, 10, 170};
        for (int what = 0; what <= 5; what++) {
            CHECK.due("all: count(" + what + ")", bar.count(what), due[what]);
        }
    }
}
