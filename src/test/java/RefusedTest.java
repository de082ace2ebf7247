/** "Refused, and nothing changes": each way in which a call is refused, and that all others answer as they did. */
public final class RefusedTest {
    private static final Check CHECK = new Check("RefusedTest");
    private static final int BAD = PuppetBar.BAD, STATE = PuppetBar.STATE, FULL = PuppetBar.FULL,
        NONE = PuppetBar.NONE, NO = PuppetBar.NO;
    private static final int LEAST = Integer.MIN_VALUE, MOST = Integer.MAX_VALUE;
    private static final Twins.Deeds NEW = bar -> { };
    /** Eight limbs, six strings, seven beats, ten steps, two images, two things seen, "u7" typed; lift 19, tilt 2. */
    private static final Twins.Deeds BUSY = Twins::busy;

    public static void main(String[] args) {
        typeRefused();
        puppetFaults();
        limbRefused();
        stringRefused();
        beatRefused();
        farRefused();
        liftsRefused();
        liftsBeyondTheBounds();
        tiltsRefused();
        cutsRefused();
        tiesRefused();
        hangsRefused();
        beatsRefused();
        undoRefused();
        nowRefused();
        reachRefused();
        fellRefused();
        pathRefused();
        nodsRefused();
        playRefused();
        oddsRefused();
        sawRefused();
        holesRefused();
        lookNone();
        markRefused();
        keepRefused();
        backRefused();
        countRefused();
        CHECK.end();
    }

    private static void refused(String call, Twins.Deeds past, Twins.Call asked, long answer) {
        Twins.unchanged(CHECK, call, past, asked, answer);
    }

    private static void refusedAlways(String call, Twins.Call asked, long answer) {
        refused(call + " of a new one", NEW, asked, answer);
        refused(call, BUSY, asked, answer);
    }

    private static void told(PuppetBar bar, String text) {
        Check.read(bar, text);
    }

    private static void typeRefused() {
        CHECK.sentence("type: BAD; FULL");
        for (int c : new int[] {-1, 256, LEAST, MOST}) {
            refusedAlways("type(" + c + ")", bar -> bar.type(c), BAD);
        }
        Twins.Deeds full = bar -> {
            told(bar, "l0 0 1;s0 3 0 1;");
            bar.lifts(1);
            Check.type(bar, " ".repeat(168) + "u7");
        };
        refused("type of a full text", full, bar -> bar.type(';'), FULL);
        refused("type of a full text", full, bar -> bar.type(256), BAD);
    }

    private static void puppetFaults() {
        CHECK.sentence("puppet: -10 less FAULT: nothing changes");
        refused("puppet of u7", BUSY, PuppetBar::puppet, -12);
        String[] texts = {"x", "l0 0 1;s0 0 0 1;b0 0;u0;t0;x", "l0 0 1;l0 1 1;l1 1 1;s2 6 0 9;s1 6 0 9;u41;",
            "b0 0;b0 0;b0 0;b0 0;b0 0;b0 0;b0 0;b", "t0;u0;u0;", "$"};
        int[] places = {0, 27, 40, 35, 6, 0};
        for (int i = 0; i < texts.length; i++) {
            String text = texts[i];
            refused("puppet of " + text, bar -> {
                Twins.busy(bar);
                bar.clear();
                Check.type(bar, text);
            }, PuppetBar::puppet, -10 - places[i]);
            refused("puppet of " + text + " on a new one", bar -> Check.type(bar, text), PuppetBar::puppet,
                -10 - places[i]);
        }
    }

    private static void limbRefused() {
        CHECK.sentence("limb: BAD");
        refused("limb(0, 0) of a new one", NEW, bar -> bar.limb(0, 0), BAD);
        int[][] bad = {{-1, 0}, {8, 3}, {0, -1}, {7, 5}, {LEAST, LEAST}, {MOST, MOST}};
        for (int[] n : bad) {
            refusedAlways("limb(" + n[0] + ", " + n[1] + ")", bar -> bar.limb(n[0], n[1]), BAD);
        }
    }

    private static void stringRefused() {
        CHECK.sentence("string: NO: BAD");
        refused("string(0, 0) of a new one", NEW, bar -> bar.string(0, 0), NO);
        int[][] bad = {{-1, 0}, {6, 6}, {0, -1}, {5, 8}, {LEAST, LEAST}, {MOST, MOST}};
        for (int[] n : bad) {
            refusedAlways("string(" + n[0] + ", " + n[1] + ")", bar -> bar.string(n[0], n[1]), NO);
        }
    }

    private static void beatRefused() {
        CHECK.sentence("beat: NO: BAD");
        refused("beat(0, 0) of a new one", NEW, bar -> bar.beat(0, 0), NO);
        int[][] bad = {{-1, 0}, {7, 1}, {0, -1}, {6, 2}, {LEAST, LEAST}, {MOST, MOST}};
        for (int[] n : bad) {
            refusedAlways("beat(" + n[0] + ", " + n[1] + ")", bar -> bar.beat(n[0], n[1]), NO);
        }
    }

    private static void farRefused() {
        CHECK.sentence("far: BAD");
        refused("far(0, 0) of a new one", NEW, bar -> bar.far(0, 0), BAD);
        int[][] bad = {{-1, 0}, {8, 0}, {0, -1}, {0, 8}, {LEAST, MOST}, {MOST, LEAST}};
        for (int[] n : bad) {
            refusedAlways("far(" + n[0] + ", " + n[1] + ")", bar -> bar.far(n[0], n[1]), BAD);
        }
    }

    private static void liftsRefused() {
        CHECK.sentence("lifts: BAD");
        for (int n : new int[] {0, 6, -6, LEAST, MOST}) {
            refusedAlways("lifts(" + n + ")", bar -> bar.lifts(n), BAD);
        }
    }

    private static void liftsBeyondTheBounds() {
        CHECK.sentence("lifts: STATE: it would be below 0, above 40");
        int[][] beyond = {{40, 1}, {40, 5}, {36, 5}, {39, 2}, {0, -1}, {0, -5}, {4, -5}, {1, -2}};
        for (int[] n : beyond) {
            Twins.Deeds past = bar -> {
                told(bar, "l0 0 1;s0 3 0 1;u" + n[0] + ";");
                bar.tilts(1);
            };
            refused("lifts(" + n[1] + ") at " + n[0], past, bar -> bar.lifts(n[1]), STATE);
        }
    }

    private static void tiltsRefused() {
        CHECK.sentence("tilts: NO: BAD, it is so");
        for (int n : new int[] {-4, 4, LEAST, MOST}) {
            refusedAlways("tilts(" + n + ")", bar -> bar.tilts(n), NO);
        }
        refused("tilts(0) of a new one", NEW, bar -> bar.tilts(0), NO);
        refused("tilts(2)", BUSY, bar -> bar.tilts(2), NO);
        refused("tilts(3) at 3", bar -> told(bar, "t6;"), bar -> bar.tilts(3), NO);
        refused("tilts(-3) at -3", bar -> told(bar, "t0;"), bar -> bar.tilts(-3), NO);
    }

    private static void cutsRefused() {
        CHECK.sentence("cuts: BAD; STATE: it is");
        for (int s : new int[] {-1, 6, 32, LEAST, MOST}) {
            refusedAlways("cuts(" + s + ")", bar -> bar.cuts(s), BAD);
        }
        refused("cuts(0) of a new one", NEW, bar -> bar.cuts(0), BAD);
        for (int s = 0; s < 6; s++) {
            int cut = s;
            refused("cuts(" + s + ") again", bar -> cutAfter(bar, cut), bar -> bar.cuts(cut), STATE);
        }
    }

    private static void cutAfter(PuppetBar bar, int s) {
        told(bar, Twins.ALL_TOLD);
        bar.lifts(1);
        bar.cuts(s);
    }

    private static void tiesRefused() {
        CHECK.sentence("ties: BAD; STATE: it is not CUT");
        refused("ties(0, 0, 0) of a new one", NEW, bar -> bar.ties(0, 0, 0), BAD);
        int[][] bad = {{-1, 0, 0}, {6, 0, 0}, {5, -1, 0}, {5, 8, 0}, {5, 0, -1}, {5, 0, 41}, {LEAST, LEAST, LEAST},
            {MOST, MOST, MOST}};
        for (int[] n : bad) {
            String call = "ties(" + n[0] + ", " + n[1] + ", " + n[2] + ")";
            refused(call, bar -> cutAfter(bar, 5), bar -> bar.ties(n[0], n[1], n[2]), BAD);
            refused(call + " of none that is cut", bar -> told(bar, Twins.ALL_TOLD),
                bar -> bar.ties(n[0], n[1], n[2]), BAD);
        }
        refused("ties(0, 1, 1), not cut", bar -> cutAfter(bar, 5), bar -> bar.ties(0, 1, 1), STATE);
        refused("ties(5, 1, 1), not cut", bar -> cutAfter(bar, 0), bar -> bar.ties(5, 1, 1), STATE);
    }

    private static void hangsRefused() {
        CHECK.sentence("hangs: BAD; STATE: it is there");
        refused("hangs(0, 0) of a new one", NEW, bar -> bar.hangs(0, 0), BAD);
        int[][] bad = {{-1, 0}, {6, 0}, {0, -1}, {5, 7}, {LEAST, LEAST}, {MOST, MOST}};
        for (int[] n : bad) {
            refusedAlways("hangs(" + n[0] + ", " + n[1] + ")", bar -> bar.hangs(n[0], n[1]), BAD);
        }
        int[] holes = {3, 1, 6, 0, 2, 5};
        for (int s = 0; s < 6; s++) {
            int where = s;
            refused("hangs(" + s + ", " + holes[s] + ")", bar -> cutAfter(bar, 3),
                bar -> bar.hangs(where, holes[where]), STATE);
        }
    }

    private static void beatsRefused() {
        CHECK.sentence("beats: BAD");
        refused("beats(0) of a new one", NEW, bar -> bar.beats(0), BAD);
        for (int b : new int[] {-1, 7, LEAST, MOST}) {
            refusedAlways("beats(" + b + ")", bar -> bar.beats(b), BAD);
        }
    }

    private static void undoRefused() {
        CHECK.sentence("undo: STATE: none");
        refused("undo of a new one", NEW, PuppetBar::undo, STATE);
        refused("undo of one just told", bar -> told(bar, Twins.ALL_TOLD), PuppetBar::undo, STATE);
        refused("undo, all ten undone", bar -> {
            Twins.busy(bar);
            for (int i = 0; i < 10; i++) {
                bar.undo();
            }
        }, PuppetBar::undo, STATE);
    }

    private static void nowRefused() {
        CHECK.sentence("now: NO: BAD");
        for (int what : new int[] {-1, 8, LEAST, MOST}) {
            refusedAlways("now(" + what + ")", bar -> bar.now(what), NO);
        }
    }

    private static void reachRefused() {
        CHECK.sentence("reach: NO: BAD; NONE");
        refused("reach(1, 0) of a new one", NEW, bar -> bar.reach(1, 0), NO);
        int[][] bad = {{-1, 0}, {256, 0}, {0, -1}, {255, 3}, {LEAST, LEAST}, {MOST, MOST}};
        for (int[] n : bad) {
            refusedAlways("reach(" + n[0] + ", " + n[1] + ")", bar -> bar.reach(n[0], n[1]), NO);
        }
        for (int what = 0; what <= 2; what++) {
            int which = what;
            refused("reach(0, " + what + ") without strings", bar -> told(bar, "l0 0 1;l0 1 1;"),
                bar -> bar.reach(0, which), NONE);
        }
    }

    private static void fellRefused() {
        CHECK.sentence("fell: BAD");
        refused("fell(0) of a new one", NEW, bar -> bar.fell(0), BAD);
        for (int l : new int[] {-1, 8, LEAST, MOST}) {
            refusedAlways("fell(" + l + ")", bar -> bar.fell(l), BAD);
        }
    }

    private static void pathRefused() {
        CHECK.sentence("path: BAD");
        refused("path(0, 0) of a new one", NEW, bar -> bar.path(0, 0), BAD);
        int[][] bad = {{-1, 0}, {8, 0}, {0, -1}, {7, 7}, {LEAST, LEAST}, {MOST, MOST}};
        for (int[] n : bad) {
            refusedAlways("path(" + n[0] + ", " + n[1] + ")", bar -> bar.path(n[0], n[1]), BAD);
        }
    }

    private static void nodsRefused() {
        CHECK.sentence("nods: BAD");
        refused("nods(0) of a new one", NEW, bar -> bar.nods(0), BAD);
        for (int l : new int[] {-1, 8, LEAST, MOST}) {
            refusedAlways("nods(" + l + ")", bar -> bar.nods(l), BAD);
        }
    }

    private static void playRefused() {
        CHECK.sentence("play: NONE: not so many. BAD (i -1 .. 6)");
        for (int i : new int[] {-2, 7, LEAST, MOST}) {
            refusedAlways("play(" + i + ")", bar -> bar.play(i), BAD);
        }
        for (int i = 0; i <= 6; i++) {
            int which = i;
            refused("play(" + i + ") of a new one", NEW, bar -> bar.play(which), NONE);
        }
        refused("play(6) of six", bar -> told(bar, "b1 1;".repeat(6)), bar -> bar.play(6), NONE);
    }

    private static void oddsRefused() {
        CHECK.sentence("odds: BAD");
        refused("odds(0, 0, 0) of a new one", NEW, bar -> bar.odds(0, 0, 0), BAD);
        int[][] bad = {{-1, 0, 0}, {8, 0, 0}, {0, -1, 0}, {7, 11, 1}, {0, 0, -1}, {7, 10, 2}, {LEAST, LEAST, LEAST},
            {MOST, MOST, MOST}};
        for (int[] n : bad) {
            refusedAlways("odds(" + n[0] + ", " + n[1] + ", " + n[2] + ")", bar -> bar.odds(n[0], n[1], n[2]), BAD);
        }
    }

    private static void sawRefused() {
        CHECK.sentence("saw: BAD; FULL");
        refused("saw(0, 0) of a new one", NEW, bar -> bar.saw(0, 0), BAD);
        int[][] bad = {{-1, 0}, {8, 0}, {0, -1}, {7, 50}, {LEAST, LEAST}, {MOST, MOST}};
        Twins.Deeds full = bar -> {
            Twins.busy(bar);
            for (int i = 0; i < 4; i++) {
                bar.saw(i, 0);
            }
        };
        for (int[] n : bad) {
            refusedAlways("saw(" + n[0] + ", " + n[1] + ")", bar -> bar.saw(n[0], n[1]), BAD);
            refused("saw(" + n[0] + ", " + n[1] + ") when full", full, bar -> bar.saw(n[0], n[1]), BAD);
        }
        refused("saw(0, 9) when full", full, bar -> bar.saw(0, 9), FULL);
        refused("saw(7, 49) when full", full, bar -> bar.saw(7, 49), FULL);
    }

    private static void holesRefused() {
        CHECK.sentence("holes: BAD; STATE: it is CUT");
        refused("holes(0) of a new one", NEW, bar -> bar.holes(0), BAD);
        for (int s : new int[] {-1, 6, 32, LEAST, MOST}) {
            refusedAlways("holes(" + s + ")", bar -> bar.holes(s), BAD);
        }
        refused("holes(0), cut", bar -> cutAfter(bar, 0), bar -> bar.holes(0), STATE);
        refused("holes(5), cut", bar -> cutAfter(bar, 5), bar -> bar.holes(5), STATE);
    }

    private static void lookNone() {
        CHECK.sentence("look: NONE");
        refused("look of a new one", NEW, PuppetBar::look, NONE);
        refused("look without suspects", bar -> {
            told(bar, "l0 0 1;s0 3 0 1;");
            bar.saw(0, 1);
        }, PuppetBar::look, NONE);
    }

    private static void markRefused() {
        CHECK.sentence("mark: NO: BAD");
        refused("mark(0, 0) of a new one", NEW, bar -> bar.mark(0, 0), NO);
        int[][] bad = {{-1, 0}, {6, 0}, {0, -1}, {5, 8}, {LEAST, LEAST}, {MOST, MOST}};
        for (int[] n : bad) {
            refusedAlways("mark(" + n[0] + ", " + n[1] + ")", bar -> bar.mark(n[0], n[1]), NO);
        }
    }

    private static void keepRefused() {
        CHECK.sentence("keep: BAD");
        for (int image : new int[] {-1, 2, LEAST, MOST}) {
            refusedAlways("keep(" + image + ")", bar -> bar.keep(image), BAD);
        }
    }

    private static void backRefused() {
        CHECK.sentence("back: BAD; STATE: none was kept");
        for (int image : new int[] {-1, 2, LEAST, MOST}) {
            refusedAlways("back(" + image + ")", bar -> bar.back(image), BAD);
        }
        for (int image = 0; image <= 1; image++) {
            int none = image;
            refused("back(" + image + ") of a new one", NEW, bar -> bar.back(none), STATE);
            refused("back(" + image + "), the other kept", bar -> {
                told(bar, Twins.ALL_TOLD);
                bar.keep(1 - none);
                bar.lifts(1);
            }, bar -> bar.back(none), STATE);
        }
    }

    private static void countRefused() {
        CHECK.sentence("count: BAD");
        for (int what : new int[] {-1, 6, LEAST, MOST}) {
            refusedAlways("count(" + what + ")", bar -> bar.count(what), BAD);
        }
    }
}
