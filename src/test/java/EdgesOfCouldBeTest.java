/** Each boundary that the document names for what could be, and of promises 18 to 23. */
public final class EdgesOfCouldBeTest {
    private static final Check CHECK = new Check("EdgesOfCouldBeTest");
    private static final int BAD = PuppetBar.BAD, NONE = PuppetBar.NONE, NO = PuppetBar.NO;
    private static final int LEAST = Integer.MIN_VALUE, MOST = Integer.MAX_VALUE;
    /** Eight limbs in a chain of bones of 1. */
    private static final String CHAIN = "l0 0 1;l0 1 1;l1 1 1;l2 1 1;l3 1 1;l4 1 1;l5 1 1;l6 1 1;";
    private static final String SIX_STRINGS = "l0 0 1;" + "s0 3 0 1;".repeat(6);

    public static void main(String[] args) {
        reachSetsOfLimbsThereAre();
        reachWhat();
        reachWithoutAStep();
        reachTheCorners();
        reachWithinBounds();
        reachNone();
        reachJustThese();
        reachOfLikeOnes();
        fellOfLimbsThereAre();
        fellNoneAndAll();
        fellAboveZero();
        fellNotCutOnes();
        pathNumbers();
        pathAtTheBounds();
        nodsOfLimbsThereAre();
        nodsOfFewBeats();
        nodsLowerThanBoth();
        nodsAtMost();
        playNumbers();
        playOfNoBeats();
        playOfOneBeat();
        playOfSevenBeats();
        playOfLikeOrders();
        playReadAnew();
        oddsNumbers();
        oddsOfNever();
        oddsOfEver();
        oddsInLeastTerms();
        oddsNotCutOnes();
        nothingIsChanged();
        CHECK.end();
    }

    private static void reached(PuppetBar bar, int set, int steps, int lift, int tilt) {
        CHECK.due("steps to " + set, bar.reach(set, 0), steps);
        CHECK.due("lift for " + set, bar.reach(set, 1), lift);
        CHECK.due("tilt for " + set, bar.reach(set, 2), tilt);
    }

    private static void reachSetsOfLimbsThereAre() {
        CHECK.sentence("reach: NO: BAD (bits of LIMBS there are)");
        for (int n = 0; n <= 8; n++) {
            PuppetBar bar = Check.told(CHAIN.substring(0, 7 * n));
            int all = (1 << n) - 1;
            reached(bar, all, 0, 20, 0);
            reached(bar, all + 1, NO, NO, NO);
            reached(bar, -1, NO, NO, NO);
            for (int set : new int[] {LEAST, MOST, all | 1 << 8, all | 1 << 30}) {
                CHECK.due("reach(" + set + ", 0) of " + n, bar.reach(set, 0), NO);
            }
            if (n > 0) {
                reached(bar, 0, NONE, NONE, NONE);
            }
        }
    }

    private static void reachWhat() {
        CHECK.sentence("reach: how many (what = 0), LIFT (1), TILT (2). NO: BAD");
        PuppetBar bar = Check.told("l0 0 1;s0 3 19 1;");
        reached(bar, 1, 1, 19, 0);
        for (int what : new int[] {-1, 3, LEAST, MOST}) {
            CHECK.due("reach(1, " + what + ")", bar.reach(1, what), NO);
            CHECK.due("reach(2, " + what + ")", bar.reach(2, what), NO);
        }
        PuppetBar none = Check.told("l0 0 1;");
        for (int what : new int[] {-1, 3, LEAST, MOST}) {
            CHECK.due("BAD ahead of NONE", none.reach(0, what), NO);
        }
    }

    private static void reachWithoutAStep() {
        CHECK.sentence("REACH: the fewest steps from NOW: none");
        reached(new PuppetBar(), 0, 0, 20, 0);
        reached(Check.told("l0 0 1;s0 3 20 1;"), 1, 0, 20, 0);
        reached(Check.told("l0 0 1;s0 3 19 1;"), 0, 0, 20, 0);
        reached(Check.told("l0 0 1;s0 3 40 1;u0;t0;"), 1, 0, 0, -3);
        reached(Check.told("l0 0 1;s0 3 0 1;u40;t6;"), 0, 0, 40, 3);
        PuppetBar moved = Check.told("l0 0 1;s0 3 20 1;");
        moved.lifts(1);
        reached(moved, 0, 0, 21, 0);
        reached(moved, 1, 1, 20, 0);
    }

    private static void reachTheCorners() {
        CHECK.sentence("REACH: to a LIFT and TILT: the farthest ones");
        // Limb 0 is down at lift 0 alone; there limb 1 is up at the last tilt alone.
        reached(Check.told("l0 0 1;l0 1 1;s0 3 0 1;s1 0 8 1;u40;t6;"), 1, 46, 0, -3);
        reached(Check.told("l0 0 1;l0 1 1;s0 3 0 1;s1 6 8 1;u40;t0;"), 1, 46, 0, 3);
        // Limb 0, 8 below the end of limb 1's string, is up at one corner alone.
        reached(Check.told("l0 0 1;l0 8 1;s1 0 40 1;u0;t6;"), 0, 46, 40, -3);
        reached(Check.told("l0 0 1;l0 8 1;s1 6 40 1;u0;t0;"), 0, 46, 40, 3);
    }

    private static void reachWithinBounds() {
        CHECK.sentence("REACH: steps (LIFT by 1, or TILT by 1, within bounds)");
        reached(Check.told("l0 0 1;s0 3 39 1;"), 0, 20, 40, 0);
        reached(Check.told("l0 0 1;s0 3 40 1;"), 0, NONE, NONE, NONE);
        reached(Check.told("l0 0 1;s0 3 0 1;"), 1, 20, 0, 0);
        // Limb 0 is down at lift 0 alone, and there limb 1 at tilt 0 alone; lower and on at tilt 1 is out of bounds.
        reached(Check.told("l0 0 1;l0 9 1;s0 3 0 1;s1 6 0 1;s1 0 0 1;u20;t4;"), 3, 21, 0, 0);
        // One step lower would do as well as one tilt back, and would be the least lift.
        reached(Check.told("l0 0 1;s0 4 0 1;s0 2 0 1;u0;t4;"), 1, 1, 0, 0);
        reached(Check.told("l0 0 1;s0 4 0 1;s0 2 0 1;u0;t2;"), 1, 1, 0, 0);
        reached(Check.told("l0 0 1;l0 9 1;s1 6 40 1;"), 0, NONE, NONE, NONE);
        reached(Check.told("l0 0 1;l0 9 1;s1 0 40 1;"), 0, NONE, NONE, NONE);
        reached(Check.told("l0 0 1;s0 6 29 1;"), 0, 4, 21, 3);
        reached(Check.told("l0 0 1;s0 6 28 1;"), 0, 3, 20, 3);
        reached(Check.told("l0 0 1;s0 0 28 1;"), 0, 3, 20, -3);
        reached(Check.told("l0 0 1;s0 0 29 1;"), 0, 4, 21, -3);
    }

    private static void reachNone() {
        CHECK.sentence("REACH: NONE");
        PuppetBar bar = Check.told("l0 0 1;l0 1 1;s0 3 10 1;");
        reached(bar, 1, NONE, NONE, NONE);
        reached(bar, 2, 9, 11, 0);
        bar.cuts(0);
        reached(bar, 0, NONE, NONE, NONE);
        reached(bar, 2, NONE, NONE, NONE);
        reached(bar, 3, 0, 20, 0);
    }

    private static void reachJustThese() {
        CHECK.sentence("REACH: at which just these are on the GROUND");
        PuppetBar bar = Check.told(CHAIN + "s0 3 10 1;");
        for (int down = 0; down <= 8; down++) {
            int set = 0xff & 0xff << 8 - down;
            reached(bar, set, down == 0 ? 0 : 2 + down, down == 0 ? 20 : 18 - down, 0);
        }
    }

    private static void reachOfLikeOnes() {
        CHECK.sentence("REACH: of like ones the least LIFT, then TILT");
        reached(Check.told("l0 0 1;s0 4 20 1;"), 0, 1, 20, 1);
        reached(Check.told("l0 0 1;s0 2 20 1;"), 0, 1, 20, -1);
        reached(Check.told("l0 0 1;s0 4 20 1;s0 2 20 1;"), 0, 1, 20, -1);
        reached(Check.told("l0 0 1;s0 4 19 1;"), 1, 1, 19, 0);
        // Three steps: lifts of 20 to 23 with a tilt of 3 to 0, either way.
        reached(Check.told("l0 0 1;s0 4 22 1;s0 2 22 1;"), 0, 3, 20, -3);
        reached(Check.told("l0 0 1;s0 4 22 1;s0 2 22 1;t4;"), 0, 2, 20, 3);
        reached(Check.told("l0 0 1;s0 4 17 1;"), 1, 3, 17, 0);
    }

    private static void fellOfLimbsThereAre() {
        CHECK.sentence("fell: BAD (there is no such thing)");
        for (int n = 0; n <= 8; n++) {
            PuppetBar bar = Check.told(CHAIN.substring(0, 7 * n) + (n == 0 ? "" : "s0 3 0 1;"));
            for (int l : new int[] {-1, n, LEAST, MOST}) {
                CHECK.due("fell(" + l + ") of " + n, bar.fell(l), BAD);
            }
            if (n > 0) {
                CHECK.due("the first", bar.fell(0), 1);
                CHECK.due("the last", bar.fell(n - 1), 1);
            }
        }
    }

    private static void fellNoneAndAll() {
        CHECK.sentence("FELL: that of fewest: none, all");
        CHECK.due("no strings", Check.told(CHAIN).fell(7), 0);
        CHECK.due("on the ground as it is", Check.told("l0 0 1;s0 3 20 1;").fell(0), 0);
        CHECK.due("all six", Check.told(SIX_STRINGS).fell(0), 63);
    }

    private static void fellAboveZero() {
        CHECK.sentence("FELL: sets that, CUT, too, leave it on the GROUND");
        // By strings 0 to 3 limb 0 would be at 1, 0, -1 and 1.
        PuppetBar bar = Check.told("l0 0 1;l0 4 1;s0 3 19 1;s0 3 20 1;s0 3 21 1;s1 3 15 1;");
        CHECK.due("limb 0", bar.fell(0), 9);
        CHECK.due("limb 1", bar.fell(1), 8);
        bar.lifts(1);
        CHECK.due("limb 0", bar.fell(0), 11);
        bar.lifts(-2);
        CHECK.due("limb 0", bar.fell(0), 0);
        CHECK.due("limb 1", bar.fell(1), 8);
    }

    private static void fellNotCutOnes() {
        CHECK.sentence("FELL: (not CUT ones alone)");
        PuppetBar bar = Check.told(SIX_STRINGS);
        int left = 63;
        for (int s = 0; s < 6; s++) {
            bar.cuts(s);
            left -= 1 << s;
            CHECK.due("the others", bar.fell(0), left);
        }
    }

    private static void pathNumbers() {
        CHECK.sentence("path: BAD (there is no such thing)");
        for (int n = 1; n <= 7; n++) {
            PuppetBar bar = Check.told(CHAIN.substring(0, 7 * n) + "s0 3 0 1;" + "b39 3;".repeat(n));
            CHECK.due("the first at the first", bar.path(0, 0), 39);
            CHECK.due("the last at the last", bar.path(n - 1, n - 1), 40 - n);
            for (int no : new int[] {-1, n, LEAST, MOST}) {
                CHECK.due("path(" + no + ", 0)", bar.path(no, 0), BAD);
                CHECK.due("path(0, " + no + ")", bar.path(0, no), BAD);
                CHECK.due("path(" + no + ", " + no + ")", bar.path(no, no), BAD);
            }
        }
        CHECK.due("no beats", Check.told(CHAIN).path(0, 0), BAD);
        CHECK.due("no limbs", Check.told("b0 0;").path(0, 0), BAD);
        CHECK.due("the eighth limb", Check.told(CHAIN + "s7 3 0 1;b9 3;").path(7, 0), 9);
        CHECK.due("a ninth limb", Check.told(CHAIN + "s7 3 0 1;b9 3;").path(8, 0), BAD);
    }

    private static void pathAtTheBounds() {
        CHECK.sentence("At a BEAT all is as NOW but for LIFT and TILT");
        PuppetBar bar = Check.told("l0 0 1;s0 6 0 1;b40 6;b0 0;b9 0;b10 0;");
        int[] due = {49, 0, 0, 1};
        for (int b = 0; b < 4; b++) {
            CHECK.due("path(0, " + b + ")", bar.path(0, b), due[b]);
        }
        bar.hangs(0, 0);
        int[] hung = {31, 9, 18, 19};
        for (int b = 0; b < 4; b++) {
            CHECK.due("hung: path(0, " + b + ")", bar.path(0, b), hung[b]);
        }
        bar.cuts(0);
        CHECK.due("cut", bar.path(0, 0), 0);
        bar.ties(0, 0, 40);
        CHECK.due("tied", bar.path(0, 0), 0);
    }

    private static void nodsOfLimbsThereAre() {
        CHECK.sentence("nods: BAD (there is no such thing)");
        for (int n = 0; n <= 8; n++) {
            PuppetBar bar = Check.told(CHAIN.substring(0, 7 * n) + (n == 0 ? "" : "s0 3 0 1;") + "b9 3;b8 3;b9 3;");
            for (int l : new int[] {-1, n, LEAST, MOST}) {
                CHECK.due("nods(" + l + ") of " + n, bar.nods(l), BAD);
            }
            if (n > 0) {
                CHECK.due("the first", bar.nods(0), 1);
                CHECK.due("the last", bar.nods(n - 1), 1);
            }
        }
    }

    private static void nodsOfFewBeats() {
        CHECK.sentence("NODS: on the way through all BEATS (from the first to the last)");
        String limb = "l0 0 1;s0 3 0 1;";
        CHECK.due("no beats", Check.told(limb).nods(0), 0);
        CHECK.due("one beat", Check.told(limb + "b5 3;").nods(0), 0);
        CHECK.due("down", Check.told(limb + "b5 3;b4 3;").nods(0), 0);
        CHECK.due("up", Check.told(limb + "b4 3;b5 3;").nods(0), 0);
        CHECK.due("three beats", Check.told(limb + "b5 3;b4 3;b5 3;").nods(0), 1);
        CHECK.due("the first is not behind the last", Check.told(limb + "b4 3;b9 3;b5 3;").nods(0), 0);
        CHECK.due("NOW is not ahead of the first", Check.told(limb + "b4 3;b5 3;b6 3;").nods(0), 0);
    }

    private static void nodsLowerThanBoth() {
        CHECK.sentence("NODS: lower at one than at the one ahead and at the one behind it");
        String limb = "l0 0 1;s0 3 0 1;";
        CHECK.due("by 1 on both sides", Check.told(limb + "b5 3;b4 3;b5 3;").nods(0), 1);
        CHECK.due("as low as ahead", Check.told(limb + "b4 3;b4 3;b5 3;").nods(0), 0);
        CHECK.due("as low as behind", Check.told(limb + "b5 3;b4 3;b4 3;").nods(0), 0);
        CHECK.due("lower than ahead alone", Check.told(limb + "b5 3;b4 3;b3 3;").nods(0), 0);
        CHECK.due("lower than behind alone", Check.told(limb + "b3 3;b4 3;b5 3;").nods(0), 0);
        CHECK.due("higher than both", Check.told(limb + "b4 3;b5 3;b4 3;").nods(0), 0);
        CHECK.due("down to the ground", Check.told(limb + "b1 3;b0 3;b1 3;").nods(0), 1);
        CHECK.due("never off it", Check.told("l0 0 1;s0 3 40 1;b1 3;b0 3;b1 3;").nods(0), 0);
    }

    private static void nodsAtMost() {
        CHECK.sentence("NODS: how often; 7 BEATS at most");
        String limb = "l0 0 1;s0 3 0 1;";
        CHECK.due("three", Check.told(limb + "b9 3;b8 3;b9 3;b8 3;b9 3;b8 3;b9 3;").nods(0), 3);
        CHECK.due("two", Check.told(limb + "b8 3;b9 3;b8 3;b9 3;b8 3;b9 3;b8 3;").nods(0), 2);
        CHECK.due("at the sixth alone", Check.told(limb + "b8 3;b8 3;b8 3;b8 3;b8 3;b7 3;b8 3;").nods(0), 1);
        CHECK.due("at the second alone", Check.told(limb + "b8 3;b7 3;b8 3;b8 3;b8 3;b8 3;b8 3;").nods(0), 1);
    }

    private static void played(PuppetBar bar, int moves, int... order) {
        CHECK.due("moves", bar.play(-1), moves);
        for (int i = 0; i <= 6; i++) {
            CHECK.due("play(" + i + ")", bar.play(i), i < order.length ? order[i] : NONE);
        }
    }

    private static void playNumbers() {
        CHECK.sentence("play: BAD (i -1 .. 6); NONE (not so many)");
        for (int n = 0; n <= 7; n++) {
            PuppetBar bar = Check.told("b20 3;".repeat(n));
            for (int i : new int[] {-2, 7, LEAST, MOST}) {
                CHECK.due("play(" + i + ") of " + n, bar.play(i), BAD);
            }
            CHECK.due("moves", bar.play(-1), 0);
            for (int i = 0; i <= 6; i++) {
                CHECK.due("play(" + i + ") of " + n, bar.play(i), i < n ? i : NONE);
            }
        }
    }

    private static void playOfNoBeats() {
        CHECK.sentence("PLAY: of no BEATS");
        played(new PuppetBar(), 0);
        played(Check.told("l0 0 1;u0;t0;"), 0);
        PuppetBar fewer = Check.told("b0 0;b40 6;");
        played(fewer, 69, 0, 1);
        Check.read(fewer, "u7;");
        played(fewer, 0);
    }

    private static void playOfOneBeat() {
        CHECK.sentence("PLAY: moves (by how much LIFT changes and by how much TILT, together)");
        played(Check.told("b20 3;"), 0, 0);
        played(Check.told("b0 0;u40;t6;"), 46, 0);
        played(Check.told("b40 6;u0;t0;"), 46, 0);
        played(Check.told("b0 6;u40;t0;"), 46, 0);
        played(Check.told("b21 3;"), 1, 0);
        played(Check.told("b20 4;"), 1, 0);
        played(Check.told("b20 2;"), 1, 0);
    }

    private static void playOfSevenBeats() {
        CHECK.sentence("PLAY: of all orders of all BEATS, from NOW on, that of least moves");
        String seven = "b0 0;b40 6;b0 0;b40 6;b0 0;b40 6;b0 0;";
        played(Check.told(seven), 69, 0, 2, 4, 6, 1, 3, 5);
        played(Check.told(seven + "u21;"), 68, 1, 3, 5, 0, 2, 4, 6);
        played(Check.told(seven + "u40;t6;"), 46, 1, 3, 5, 0, 2, 4, 6);
        PuppetBar bar = Check.told("b6 3;b5 3;b4 3;b3 3;b2 3;b1 3;b0 3;u0;");
        played(bar, 6, 6, 5, 4, 3, 2, 1, 0);
        bar.beats(0);
        played(bar, 6, 0, 1, 2, 3, 4, 5, 6);
        bar.beats(3);
        // Up by way of 3, 2, 1 is as good as straight up; by numbers the straight way is the first.
        played(bar, 9, 0, 1, 2, 3, 4, 5, 6);
    }

    private static void playOfLikeOrders() {
        CHECK.sentence("PLAY: of several the first (by numbers)");
        played(Check.told("b21 3;b19 3;"), 3, 0, 1);
        played(Check.told("b19 3;b21 3;"), 3, 0, 1);
        played(Check.told("b20 4;b20 2;"), 3, 0, 1);
        // Up to 22 by way of 21, or over 21 and back by it: 6 moves either way.
        played(Check.told("b22 3;b21 3;b18 3;b19 3;"), 6, 0, 1, 3, 2);
        played(Check.told("b21 3;b22 3;b19 3;b18 3;"), 6, 0, 1, 2, 3);
        played(Check.told("b40 3;b30 3;b30 3;u25;"), 15, 1, 2, 0);
        played(Check.told("b7 1;".repeat(7)), 15, 0, 1, 2, 3, 4, 5, 6);
    }

    private static void playReadAnew() {
        CHECK.sentence("PLAY: of all BEATS (of a text read anew, fewer)");
        PuppetBar bar = Check.told("b0 3;b20 3;b40 3;b40 3;b40 3;b40 3;b40 3;");
        played(bar, 60, 0, 1, 2, 3, 4, 5, 6);
        Check.read(bar, "b35 3;b20 3;b10 3;");
        played(bar, 35, 1, 2, 0);
        Check.read(bar, "b20 3;");
        played(bar, 0, 0);
    }

    private static void chance(PuppetBar bar, int x, int upper, int lower) {
        CHECK.due("upper by " + x, bar.odds(0, x, 0), upper);
        CHECK.due("lower by " + x, bar.odds(0, x, 1), lower);
    }

    private static void oddsNumbers() {
        CHECK.sentence("odds: x (0 .. 10), upper (what = 0), lower number (1). BAD");
        for (int n = 0; n <= 8; n++) {
            PuppetBar bar = Check.told(CHAIN.substring(0, 7 * n) + (n == 0 ? "" : "s0 3 0 1;"));
            for (int l : new int[] {-1, n, LEAST, MOST}) {
                CHECK.due("odds(" + l + ", 1, 0) of " + n, bar.odds(l, 1, 0), BAD);
            }
            if (n > 0) {
                CHECK.due("the last", bar.odds(n - 1, 1, 1), 10);
            }
        }
        PuppetBar bar = Check.told("l0 0 1;s0 3 0 1;");
        for (int x : new int[] {-1, 11, LEAST, MOST}) {
            CHECK.due("odds(0, " + x + ", 0)", bar.odds(0, x, 0), BAD);
            CHECK.due("odds(0, " + x + ", 1)", bar.odds(0, x, 1), BAD);
        }
        for (int what : new int[] {-1, 2, LEAST, MOST}) {
            CHECK.due("odds(0, 5, " + what + ")", bar.odds(0, 5, what), BAD);
        }
    }

    private static void oddsOfNever() {
        CHECK.sentence("ODDS: breaks by 0 of 10: a fraction, in least terms");
        chance(Check.told("l0 0 1;s0 3 0 1;"), 0, 0, 1);
        chance(Check.told(SIX_STRINGS), 0, 0, 1);
        chance(Check.told("l0 0 1;s0 3 20 1;"), 0, 1, 1);
        chance(Check.told("l0 0 1;"), 0, 1, 1);
    }

    private static void oddsOfEver() {
        CHECK.sentence("ODDS: breaks by 10 of 10: a fraction, in least terms");
        chance(Check.told("l0 0 1;s0 3 0 1;"), 10, 1, 1);
        chance(Check.told(SIX_STRINGS), 10, 1, 1);
        chance(Check.told("l0 0 1;"), 10, 1, 1);
    }

    private static void oddsInLeastTerms() {
        CHECK.sentence("ODDS: in least terms");
        int[] uppers = {0, 1, 1, 3, 2, 1, 3, 7, 4, 9, 1};
        int[] lowers = {1, 10, 5, 10, 5, 2, 5, 10, 5, 10, 1};
        String text = "l0 0 1;";
        for (int n = 0; n <= 6; n++) {
            for (int x = 0; x <= 10; x++) {
                chance(Check.told(text), x, power(uppers[x], n), power(lowers[x], n));
            }
            text += "s0 3 0 1;";
        }
    }

    private static int power(int base, int times) {
        return times == 0 ? 1 : base * power(base, times - 1);
    }

    private static void oddsNotCutOnes() {
        CHECK.sentence("ODDS: each STRING that is not CUT breaks, for itself");
        PuppetBar bar = Check.told(SIX_STRINGS);
        int lower = 1000000;
        for (int s = 0; s < 6; s++) {
            chance(bar, 1, 1, lower);
            bar.cuts(s);
            lower /= 10;
        }
        chance(bar, 1, 1, 1);
        PuppetBar low = Check.told("l0 0 1;s0 3 19 1;s0 3 20 1;s0 3 21 1;");
        chance(low, 3, 3, 10);
    }

    private static void nothingIsChanged() {
        CHECK.sentence("(Nothing is changed.)");
        Twins.Deeds busy = Twins::busy;
        PuppetBar twin = new PuppetBar();
        Twins.busy(twin);
        Twins.unchanged(CHECK, "reach", busy, bar -> bar.reach(255, 0), twin.reach(255, 0));
        Twins.unchanged(CHECK, "reach none", busy, bar -> bar.reach(85, 2), twin.reach(85, 2));
        Twins.unchanged(CHECK, "fell", busy, bar -> bar.fell(7), twin.fell(7));
        Twins.unchanged(CHECK, "path", busy, bar -> bar.path(7, 6), twin.path(7, 6));
        Twins.unchanged(CHECK, "nods", busy, bar -> bar.nods(7), twin.nods(7));
        Twins.unchanged(CHECK, "play", busy, bar -> bar.play(6), twin.play(6));
        Twins.unchanged(CHECK, "odds", busy, bar -> bar.odds(7, 10, 1), twin.odds(7, 10, 1));
        Twins.unchanged(CHECK, "need", busy, bar -> bar.now(6), twin.now(6));
        Twins.unchanged(CHECK, "crossed", busy, bar -> bar.now(7), twin.now(7));
        Twins.unchanged(CHECK, "suspects", busy, PuppetBar::suspects, twin.suspects());
        Twins.unchanged(CHECK, "holes", busy, bar -> bar.holes(5), twin.holes(5));
        Twins.unchanged(CHECK, "look", busy, PuppetBar::look, twin.look());
    }
}
