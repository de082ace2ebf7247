/** Promises 18 to 23: what could be; and that no question changes anything. */
public final class CouldBeTest {
    private static final Check CHECK = new Check("CouldBeTest");
    private static final int BAD = PuppetBar.BAD, NONE = PuppetBar.NONE, NO = PuppetBar.NO;

    public static void main(String[] args) {
        reaching();
        reachingOfLikeOnes();
        reachingWithin();
        falling();
        paths();
        nods();
        plays();
        playsOfLikeOnes();
        odds();
        oddsInLeastTerms();
        nothingIsChanged();
        CHECK.end();
    }

    private static void reached(PuppetBar bar, int set, int steps, int lift, int tilt) {
        CHECK.due("steps to " + set, bar.reach(set, 0), steps);
        CHECK.due("lift for " + set, bar.reach(set, 1), lift);
        CHECK.due("tilt for " + set, bar.reach(set, 2), tilt);
    }

    private static void reaching() {
        // Limb 0 hangs from the middle at lift - 10, limb 1 (9 off) from hole 6 at lift + 3 tilts - 20.
        PuppetBar bar = Check.told("l0 0 1;l0 9 1;s0 3 10 1;s1 6 20 1;");
        reached(bar, 0, 0, 20, 0);
        reached(bar, 2, 1, 19, 0);
        reached(bar, 3, 10, 10, 0);
        // Limb 0 down: lift at most 10, and limb 1 up by tilt 3 would need a lift of 12.
        reached(bar, 1, NONE, NONE, NONE);
        CHECK.due("no such limb", bar.reach(4, 0), NO);
        CHECK.due("below 0", bar.reach(-1, 0), NO);
        CHECK.due("far too much", bar.reach(Integer.MAX_VALUE, 0), NO);
        CHECK.due("no such what", bar.reach(0, 3), NO);
        CHECK.due("no such what", bar.reach(0, -1), NO);
        PuppetBar eight = Check.told("l0 0 1;l0 1 1;l0 1 1;l0 1 1;l0 1 1;l0 1 1;l0 1 1;l0 1 1;");
        reached(eight, 255, 0, 20, 0);
        reached(eight, 0, NONE, NONE, NONE);
        CHECK.due("a ninth limb", eight.reach(256, 0), NO);
    }

    private static void reachingOfLikeOnes() {
        // Off the ground at lift 21, or at tilt 1: the least lift wins.
        reached(Check.told("l0 0 1;s0 4 20 1;"), 0, 1, 20, 1);
        // By tilt -1 or 1, with a string in hole 2 and one in hole 4: the least tilt wins.
        reached(Check.told("l0 0 1;s0 4 20 1;s0 2 20 1;"), 0, 1, 20, -1);
        // Down by a lift of 19, or by a tilt either way.
        reached(Check.told("l0 0 1;s0 4 19 1;"), 1, 1, 19, 0);
    }

    private static void reachingWithin() {
        PuppetBar bar = Check.told("l0 0 1;s0 6 40 1;u31;");
        reached(bar, 0, 4, 32, 3);
        bar.tilts(3);
        reached(bar, 0, 1, 32, 3);
        reached(Check.told("l0 0 1;s0 3 40 1;"), 0, NONE, NONE, NONE);
        reached(Check.told("l0 0 1;s0 3 39 1;"), 0, 20, 40, 0);
        // At any other tilt one of the two strings ends above the ground.
        reached(Check.told("l0 0 1;s0 0 0 1;s0 6 0 1;"), 1, 20, 0, 0);
        PuppetBar cut = Check.told("l0 0 1;s0 3 0 1;");
        reached(cut, 1, 20, 0, 0);
        cut.cuts(0);
        reached(cut, 0, NONE, NONE, NONE);
        reached(cut, 1, 0, 20, 0);
    }

    private static void falling() {
        PuppetBar bar = Check.told("l0 0 1;l0 9 1;s0 3 10 1;s1 3 10 1;s1 3 11 1;s0 3 20 1;");
        // Limb 0 is at 10 by string 0, would be at 1 by string 1, at 0 by string 2.
        CHECK.due("fell(0)", bar.fell(0), 3);
        CHECK.due("fell(1)", bar.fell(1), 7);
        bar.cuts(1);
        CHECK.due("not the cut one", bar.fell(0), 1);
        CHECK.due("not the cut one", bar.fell(1), 5);
        bar.cuts(0);
        CHECK.due("on the ground as it is", bar.fell(0), 0);
        CHECK.due("no such limb", bar.fell(2), BAD);
        CHECK.due("no such limb", bar.fell(-1), BAD);
    }

    private static void paths() {
        PuppetBar bar = Check.told("l0 0 1;l0 9 1;s1 6 20 1;b20 3;b20 6;b30 0;b0 6;b40 6;");
        int[] ofLimb1 = {0, 9, 1, 0, 29};
        int[] ofLimb0 = {0, 0, 0, 0, 20};
        for (int b = 0; b < 5; b++) {
            CHECK.due("path(1, " + b + ")", bar.path(1, b), ofLimb1[b]);
            CHECK.due("path(0, " + b + ")", bar.path(0, b), ofLimb0[b]);
        }
        CHECK.due("no such limb", bar.path(2, 0), BAD);
        CHECK.due("no such limb", bar.path(-1, 0), BAD);
        CHECK.due("no such beat", bar.path(0, 5), BAD);
        CHECK.due("no such beat", bar.path(0, -1), BAD);
        bar.cuts(0);
        CHECK.due("all else is as now", bar.path(1, 4), 0);
    }

    private static void nods() {
        String limb = "l0 0 1;s0 3 10 1;";
        CHECK.due("two", Check.told(limb + "b30 3;b20 3;b30 3;b15 3;b16 3;").nods(0), 2);
        CHECK.due("on the ground both times", Check.told(limb + "b30 3;b9 3;b8 3;b30 3;").nods(0), 0);
        CHECK.due("down once", Check.told(limb + "b30 3;b9 3;b30 3;").nods(0), 1);
        CHECK.due("not at the ends", Check.told(limb + "b20 3;b30 3;b20 3;").nods(0), 0);
        CHECK.due("as low as the one behind", Check.told(limb + "b30 3;b20 3;b20 3;").nods(0), 0);
        CHECK.due("as low as the one ahead", Check.told(limb + "b20 3;b20 3;b30 3;").nods(0), 0);
        CHECK.due("two beats", Check.told(limb + "b20 3;b10 3;").nods(0), 0);
        CHECK.due("no beats", Check.told(limb).nods(0), 0);
        CHECK.due("seven beats", Check.told(limb + "b30 3;b20 3;b30 3;b20 3;b30 3;b20 3;b30 3;").nods(0), 3);
        CHECK.due("no such limb", Check.told(limb).nods(1), BAD);
        CHECK.due("no such limb", Check.told(limb).nods(-1), BAD);
    }

    private static void played(PuppetBar bar, int moves, int... order) {
        CHECK.due("moves", bar.play(-1), moves);
        for (int i = 0; i <= 6; i++) {
            CHECK.due("play(" + i + ")", bar.play(i), i < order.length ? order[i] : NONE);
        }
        CHECK.due("play(7)", bar.play(7), BAD);
        CHECK.due("play(-2)", bar.play(-2), BAD);
    }

    private static void plays() {
        played(Check.told("l0 0 1;"), 0);
        played(Check.told("b20 3;"), 0, 0);
        played(Check.told("b24 0;"), 7, 0);
        // Nearest first (to 22, then back to 10) would be worse than down first.
        played(Check.told("b10 3;b40 3;b22 3;"), 40, 0, 2, 1);
        played(Check.told("b40 3;b35 3;b30 3;b25 3;b10 3;b5 3;b0 3;u15;"), 55, 4, 5, 6, 3, 2, 1, 0);
        PuppetBar bar = Check.told("b10 3;b40 3;b22 3;u35;");
        played(bar, 35, 1, 2, 0);
        bar.beats(0);
        played(bar, 30, 0, 2, 1);
        // Tilts count as lifts do.
        played(Check.told("b20 6;b20 3;b20 0;t2;"), 8, 2, 1, 0);
    }

    private static void playsOfLikeOnes() {
        played(Check.told("b25 3;b15 3;"), 15, 0, 1);
        played(Check.told("b15 3;b25 3;"), 15, 0, 1);
        played(Check.told("b20 3;b20 3;b20 3;b20 3;b20 3;b20 3;b20 3;"), 0, 0, 1, 2, 3, 4, 5, 6);
        // Up first or down first is of 60 moves.
        played(Check.told("b40 3;b35 3;b30 3;b25 3;b10 3;b5 3;b0 3;"), 60, 0, 1, 2, 3, 4, 5, 6);
        // Beats 1 and 3 are the same place.
        played(Check.told("b30 3;b25 3;b22 3;b25 3;"), 10, 2, 1, 3, 0);
    }

    private static void chance(PuppetBar bar, int l, int x, int upper, int lower) {
        CHECK.due("upper of limb " + l + " by " + x, bar.odds(l, x, 0), upper);
        CHECK.due("lower of limb " + l + " by " + x, bar.odds(l, x, 1), lower);
    }

    private static void odds() {
        PuppetBar bar = Check.told("l0 0 1;l0 9 1;s0 3 10 1;s1 3 10 1;s1 3 11 1;s0 3 20 1;");
        chance(bar, 0, 3, 9, 100);
        chance(bar, 1, 3, 27, 1000);
        chance(bar, 0, 0, 0, 1);
        chance(bar, 0, 10, 1, 1);
        bar.cuts(0);
        chance(bar, 0, 3, 3, 10);
        bar.cuts(1);
        chance(bar, 0, 3, 1, 1);
        chance(bar, 0, 0, 1, 1);
        CHECK.due("no such limb", bar.odds(2, 3, 0), BAD);
        CHECK.due("no such limb", bar.odds(-1, 3, 0), BAD);
        CHECK.due("x above 10", bar.odds(0, 11, 0), BAD);
        CHECK.due("x below 0", bar.odds(0, -1, 0), BAD);
        CHECK.due("no such what", bar.odds(0, 3, 2), BAD);
        CHECK.due("no such what", bar.odds(0, 3, -1), BAD);
    }

    private static void oddsInLeastTerms() {
        PuppetBar six = Check.told("l0 0 1;" + "s0 3 0 1;".repeat(6));
        int[] uppers = {0, 1, 1, 729, 64, 1, 729, 117649, 4096, 531441, 1};
        int[] lowers = {1, 1000000, 15625, 1000000, 15625, 64, 15625, 1000000, 15625, 1000000, 1};
        for (int x = 0; x <= 10; x++) {
            chance(six, 0, x, uppers[x], lowers[x]);
        }
    }

    private static void nothingIsChanged() {
        PuppetBar bar = Check.told("l0 0 1;l0 9 1;s0 3 10 1;s1 6 10 1;b30 6;b10 0;b20 3;u25;t4;");
        bar.cuts(1);
        bar.reach(1, 0);
        bar.fell(0);
        bar.path(0, 1);
        bar.nods(0);
        bar.play(2);
        bar.odds(0, 5, 0);
        bar.suspects();
        bar.holes(0);
        bar.look();
        bar.now(6);
        CHECK.due("lift", bar.now(0), 25);
        CHECK.due("tilt", bar.now(1), 1);
        CHECK.due("cut", bar.now(2), 2);
        CHECK.due("hole", bar.string(0, 1), 3);
        CHECK.due("steps", bar.count(4), 1);
        CHECK.due("trace", bar.trace(), 0);
    }
}
