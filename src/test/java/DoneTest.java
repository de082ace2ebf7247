/** Promises 9 to 17: what is done to the bar and the strings, undone, and how all is now. */
public final class DoneTest {
    private static final Check CHECK = new Check("DoneTest");
    private static final int BAD = PuppetBar.BAD, STATE = PuppetBar.STATE, NO = PuppetBar.NO;
    /** Two limbs three apart; strings end at 12 (limb 0) and 5 + tilt * 2 (limb 1). */
    private static final String TWO_LIMBS = "l0 0 2;l0 3 4;s0 3 8 9;s1 5 15 3;b10 3;b40 6;b0 0;";

    public static void main(String[] args) {
        lifting();
        tilting();
        cutting();
        tying();
        hanging();
        holdingInARow();
        holdingOfLikeOnes();
        holdingNothing();
        beating();
        undoing();
        undoingOfEachDeed();
        refusedDeedsAreNotUndone();
        now();
        need();
        crossed();
        CHECK.end();
    }

    private static void lifting() {
        PuppetBar bar = Check.told(TWO_LIMBS);
        for (int n : new int[] {0, 6, -6, Integer.MAX_VALUE, Integer.MIN_VALUE}) {
            CHECK.due("lifts(" + n + ")", bar.lifts(n), BAD);
        }
        CHECK.due("lifts(5)", bar.lifts(5), 25);
        CHECK.due("lifts(-1)", bar.lifts(-1), 24);
        CHECK.due("height", bar.limb(0, 3), 16);
        bar.beats(1);
        CHECK.due("above 40", bar.lifts(1), STATE);
        CHECK.due("lifts(-5)", bar.lifts(-5), 35);
        CHECK.due("to 40", bar.lifts(5), 40);
        bar.beats(2);
        CHECK.due("below 0", bar.lifts(-1), STATE);
        CHECK.due("BAD ahead of STATE", bar.lifts(-6), BAD);
        CHECK.due("lifts(4)", bar.lifts(4), 4);
        CHECK.due("below 0", bar.lifts(-5), STATE);
        CHECK.due("to 0", bar.lifts(-4), 0);
        CHECK.due("lift", bar.now(0), 0);
    }

    private static void tilting() {
        PuppetBar bar = Check.told(TWO_LIMBS);
        CHECK.due("it is so", bar.tilts(0), NO);
        CHECK.due("too much", bar.tilts(4), NO);
        CHECK.due("too much", bar.tilts(-4), NO);
        CHECK.due("nothing to undo", bar.count(4), 0);
        CHECK.due("tilts(3)", bar.tilts(3), 0);
        CHECK.due("end", bar.string(1, 4), 11);
        CHECK.due("tilts(-3)", bar.tilts(-3), 3);
        CHECK.due("end", bar.string(1, 4), -1);
        CHECK.due("tilts(0)", bar.tilts(0), -3);
        CHECK.due("steps", bar.count(4), 3);
    }

    private static void cutting() {
        PuppetBar bar = Check.told(TWO_LIMBS);
        CHECK.due("no such string", bar.cuts(2), BAD);
        CHECK.due("no such string", bar.cuts(-1), BAD);
        CHECK.due("cut", bar.cuts(1), 0);
        CHECK.due("height", bar.limb(1, 3), 9);
        CHECK.due("it is", bar.cuts(1), STATE);
        CHECK.due("cut", bar.cuts(0), 2);
        CHECK.due("bits", bar.now(2), 3);
        bar.undo();
        bar.undo();
        CHECK.due("the other one", bar.cuts(0), 0);
        CHECK.due("held from below", bar.limb(0, 3), 2);
    }

    private static void tying() {
        PuppetBar bar = Check.told(TWO_LIMBS);
        CHECK.due("it is not cut", bar.ties(1, 0, 0), STATE);
        CHECK.due("BAD ahead of STATE", bar.ties(1, 2, 0), BAD);
        bar.cuts(1);
        CHECK.due("no such string", bar.ties(2, 0, 0), BAD);
        CHECK.due("no such string", bar.ties(-1, 0, 0), BAD);
        CHECK.due("no such limb", bar.ties(1, 2, 0), BAD);
        CHECK.due("no such limb", bar.ties(1, -1, 0), BAD);
        CHECK.due("too long", bar.ties(1, 0, 41), BAD);
        CHECK.due("too short", bar.ties(1, 0, -1), BAD);
        CHECK.due("tied", bar.ties(1, 0, 0), 0);
        CHECK.due("limb", bar.string(1, 0), 0);
        CHECK.due("the hole stays", bar.string(1, 1), 5);
        CHECK.due("length", bar.string(1, 2), 0);
        CHECK.due("the strength stays", bar.string(1, 3), 3);
        CHECK.due("cut no more", bar.string(1, 7), 0);
        CHECK.due("height", bar.limb(0, 3), 20);
        bar.cuts(0);
        bar.cuts(1);
        CHECK.due("tied too long", bar.ties(0, 1, 40), 2);
        CHECK.due("only limb 0 is down", bar.ties(1, 1, 18), 1);
        CHECK.due("bits", bar.now(2), 0);
    }

    private static void hanging() {
        PuppetBar bar = Check.told(TWO_LIMBS);
        CHECK.due("no such string", bar.hangs(2, 0), BAD);
        CHECK.due("no such string", bar.hangs(-1, 0), BAD);
        CHECK.due("no such hole", bar.hangs(0, 7), BAD);
        CHECK.due("no such hole", bar.hangs(0, -1), BAD);
        CHECK.due("it is there", bar.hangs(1, 5), STATE);
        CHECK.due("hung", bar.hangs(1, 0), 5);
        CHECK.due("hung again", bar.hangs(1, 6), 0);
        bar.tilts(2);
        CHECK.due("end", bar.string(1, 4), 11);
        bar.cuts(1);
        CHECK.due("a cut one, too", bar.hangs(1, 2), 6);
        CHECK.due("is cut still", bar.string(1, 7), 1);
        CHECK.due("hole", bar.string(1, 1), 2);
    }

    private static void holdingInARow() {
        // String 1 is overloaded by 1; string 0 behind it by 3, string 2 behind that by 5.
        PuppetBar bar = Check.told("l0 0 4;l0 1 3;l0 1 2;s0 3 10 6;s1 3 9 2;s2 3 12 4;");
        CHECK.due("load 0", bar.string(0, 6), 6);
        CHECK.due("load 1", bar.string(1, 6), 3);
        CHECK.due("all three snap", bar.holds(), 3);
        CHECK.due("cut", bar.now(2), 7);
        CHECK.due("one step", bar.undo(), 0);
        CHECK.due("none is cut", bar.now(2), 0);
        PuppetBar strong = Check.told("l0 0 4;l0 1 3;l0 1 2;s0 3 10 9;s1 3 9 2;s2 3 12 4;");
        CHECK.due("a load like the strength holds", strong.holds(), 1);
        CHECK.due("cut", strong.now(2), 2);
        CHECK.due("then nothing", strong.holds(), 0);
        CHECK.due("two steps", strong.count(4), 2);
    }

    private static void holdingOfLikeOnes() {
        PuppetBar like = Check.told("l0 0 9;l0 9 9;s0 3 0 7;s1 3 0 7;s0 3 5 40;");
        CHECK.due("above by 2 both", like.holds(), 2);
        CHECK.due("both cut", like.now(2), 3);
        PuppetBar saved = Check.told("l0 0 5;l0 1 5;s0 3 0 4;s0 3 0 5;s1 3 0 4;s1 3 0 5;");
        CHECK.due("those behind them hold", saved.holds(), 2);
        CHECK.due("which", saved.now(2), 5);
        // String 1 holds limb 1 until string 0 is gone; then it bears both.
        PuppetBar behind = Check.told("l0 0 3;l0 1 3;s0 3 5 2;s1 3 5 3;");
        CHECK.due("one behind the other", behind.holds(), 2);
        CHECK.due("both go", behind.now(2), 3);
        CHECK.due("all is down", behind.now(3), 3);
    }

    private static void holdingNothing() {
        PuppetBar bar = new PuppetBar();
        CHECK.due("no strings", bar.holds(), 0);
        CHECK.due("it is a step all the same", bar.count(4), 1);
    }

    private static void beating() {
        PuppetBar bar = Check.told(TWO_LIMBS);
        CHECK.due("no such beat", bar.beats(3), BAD);
        CHECK.due("no such beat", bar.beats(-1), BAD);
        CHECK.due("beat 0: string 0 ends at 2, limb 1 is down", bar.beats(0), 1);
        CHECK.due("lift", bar.now(0), 10);
        CHECK.due("beat 2", bar.beats(2), 2);
        CHECK.due("tilt", bar.now(1), -3);
        CHECK.due("beat 1", bar.beats(1), 0);
        CHECK.due("lift", bar.now(0), 40);
        CHECK.due("tilt", bar.now(1), 3);
        CHECK.due("the same again is a step", bar.beats(1), 0);
        CHECK.due("steps", bar.count(4), 4);
    }

    private static void undoing() {
        PuppetBar bar = Check.told(TWO_LIMBS);
        CHECK.due("none", bar.undo(), STATE);
        for (int i = 0; i < 12; i++) {
            bar.lifts(1);
            CHECK.due("known", bar.count(4), Math.min(i + 1, 10));
        }
        for (int i = 9; i >= 0; i--) {
            CHECK.due("undo", bar.undo(), i);
            CHECK.due("lift", bar.now(0), 22 + i);
        }
        CHECK.due("older ones are lost", bar.undo(), STATE);
        CHECK.due("lift", bar.now(0), 22);
        for (int i = 0; i < 25; i++) {
            bar.tilts(i % 2 == 0 ? 1 : -1);
        }
        bar.undo();
        bar.undo();
        bar.lifts(-2);
        CHECK.due("known", bar.count(4), 9);
        CHECK.due("undo", bar.undo(), 8);
        CHECK.due("tilt", bar.now(1), 1);
        CHECK.due("undo", bar.undo(), 7);
        CHECK.due("tilt", bar.now(1), -1);
    }

    private static void undoingOfEachDeed() {
        PuppetBar bar = Check.told("l0 0 2;l0 3 4;s0 3 8 1;s1 5 15 3;b10 4;");
        bar.saw(0, 12);
        bar.lifts(3);
        bar.tilts(2);
        bar.hangs(1, 0);
        bar.cuts(1);
        bar.ties(1, 0, 7);
        bar.beats(0);
        CHECK.due("string 0 snaps", bar.holds(), 1);
        CHECK.due("cut", bar.now(2), 1);
        CHECK.due("undo holds", bar.undo(), 6);
        CHECK.due("cut", bar.now(2), 0);
        CHECK.due("undo beats", bar.undo(), 5);
        CHECK.due("lift", bar.now(0), 23);
        CHECK.due("tilt", bar.now(1), 2);
        CHECK.due("undo ties", bar.undo(), 4);
        CHECK.due("cut", bar.now(2), 2);
        CHECK.due("limb", bar.string(1, 0), 1);
        CHECK.due("length", bar.string(1, 2), 15);
        CHECK.due("undo cuts", bar.undo(), 3);
        CHECK.due("cut", bar.now(2), 0);
        CHECK.due("undo hangs", bar.undo(), 2);
        CHECK.due("hole", bar.string(1, 1), 5);
        CHECK.due("undo tilts", bar.undo(), 1);
        CHECK.due("tilt", bar.now(1), 0);
        CHECK.due("undo lifts", bar.undo(), 0);
        CHECK.due("lift", bar.now(0), 20);
        CHECK.due("what was seen stays", bar.count(3), 1);
    }

    private static void refusedDeedsAreNotUndone() {
        PuppetBar bar = Check.told(TWO_LIMBS);
        bar.lifts(0);
        bar.tilts(0);
        bar.cuts(9);
        bar.ties(0, 0, 0);
        bar.hangs(0, 3);
        bar.beats(3);
        CHECK.due("no step", bar.count(4), 0);
    }

    private static void now() {
        PuppetBar bar = Check.told("l0 0 2;l0 3 4;l1 9 1;s0 3 8 9;s1 5 15 3;s2 0 1 1;u10;t5;");
        // Ends: 2, -1, 3. Limb 2 is at 3, limb 0 at 2, limb 1 on the ground.
        CHECK.due("lift", bar.now(0), 10);
        CHECK.due("tilt", bar.now(1), 2);
        CHECK.due("cut", bar.now(2), 0);
        CHECK.due("ground", bar.now(3), 2);
        CHECK.due("taut", bar.now(4), 5);
        CHECK.due("heights", bar.now(5), 5);
        CHECK.due("need", bar.now(6), 5);
        CHECK.due("crossed", bar.now(7), 2);
        bar.cuts(2);
        CHECK.due("cut", bar.now(2), 4);
        CHECK.due("ground", bar.now(3), 6);
        CHECK.due("taut", bar.now(4), 1);
        CHECK.due("heights", bar.now(5), 2);
        CHECK.due("need", bar.now(6), 1);
        CHECK.due("crossed", bar.now(7), 0);
        CHECK.due("no such what", bar.now(8), NO);
        CHECK.due("no such what", bar.now(-1), NO);
    }

    private static void need() {
        CHECK.due("alike: the least bits", Check.told("l0 0 1;s0 3 5 1;s0 3 5 1;s0 3 5 1;").now(6), 1);
        CHECK.due("the shortest", Check.told("l0 0 1;s0 3 5 1;s0 3 6 1;s0 3 4 1;").now(6), 4);
        CHECK.due("none", Check.told("l0 0 1;s0 3 20 1;").now(6), 0);
        CHECK.due("one instead of two",
            Check.told("l0 0 1;l0 2 1;s0 3 5 1;s1 3 3 1;s0 3 5 1;").now(6), 2);
        PuppetBar two = Check.told("l0 0 1;l0 2 1;s0 3 5 1;s1 3 5 1;s0 3 5 1;s1 3 5 1;");
        CHECK.due("one of each", two.now(6), 3);
        two.cuts(0);
        CHECK.due("not cut ones", two.now(6), 6);
    }

    private static void crossed() {
        CHECK.due("like holes", Check.told("l0 0 1;l0 1 1;s0 3 0 1;s1 3 0 1;").now(7), 0);
        CHECK.due("like limbs", Check.told("l0 0 1;l0 1 1;s1 2 0 1;s1 3 0 1;").now(7), 0);
        CHECK.due("side by side", Check.told("l0 0 1;l0 1 1;s0 2 0 1;s1 3 0 1;").now(7), 0);
        CHECK.due("crossed", Check.told("l0 0 1;l0 1 1;s0 4 0 1;s1 3 0 1;").now(7), 1);
        CHECK.due("crossed, told the other way", Check.told("l0 0 1;l0 1 1;s1 3 0 1;s0 4 0 1;").now(7), 1);
        PuppetBar all = Check.told("l0 0 1;l0 1 1;l0 1 1;s0 6 0 1;s1 3 0 1;s2 0 0 1;");
        CHECK.due("each with each", all.now(7), 3);
        all.cuts(1);
        CHECK.due("not the cut one", all.now(7), 1);
    }
}
