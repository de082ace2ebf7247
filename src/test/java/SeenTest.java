/** Promises 24 to 28: what was seen, and what it tells. */
public final class SeenTest {
    private static final Check CHECK = new Check("SeenTest");
    private static final int BAD = PuppetBar.BAD, STATE = PuppetBar.STATE, NONE = PuppetBar.NONE;
    /** Heights 12 and 15; without string 0 limb 0 is at 12 still, without string 1 limb 1 is at 9. */
    private static final String TWO_LIMBS = "l0 0 2;l0 3 4;s0 3 8 9;s1 5 5 3;";

    public static void main(String[] args) {
        seeing();
        forgetting();
        suspects();
        suspectsOfCutOnes();
        holes();
        looking();
        lookingOfLikeOnes();
        lookingAtNothing();
        CHECK.end();
    }

    private static void seeing() {
        PuppetBar bar = Check.told(TWO_LIMBS);
        CHECK.due("no such limb", bar.saw(2, 0), BAD);
        CHECK.due("no such limb", bar.saw(-1, 0), BAD);
        CHECK.due("too low", bar.saw(0, -1), BAD);
        CHECK.due("too high", bar.saw(0, 50), BAD);
        CHECK.due("none", bar.count(3), 0);
        for (int i = 1; i <= 6; i++) {
            CHECK.due("saw", bar.saw(i % 2, i == 1 ? 49 : 0), i);
        }
        CHECK.due("a seventh", bar.saw(0, 0), PuppetBar.FULL);
        CHECK.due("BAD ahead of FULL", bar.saw(2, 0), BAD);
        CHECK.due("six", bar.count(3), 6);
    }

    private static void forgetting() {
        PuppetBar bar = Check.told(TWO_LIMBS);
        CHECK.due("nothing", bar.forget(), 0);
        bar.saw(0, 1);
        bar.saw(0, 2);
        CHECK.due("suspects", bar.suspects(), 0);
        CHECK.due("two", bar.forget(), 2);
        CHECK.due("none left", bar.count(3), 0);
        CHECK.due("suspects", bar.suspects(), 67);
        CHECK.due("from the beginning", bar.saw(0, 1), 1);
    }

    private static void suspects() {
        PuppetBar bar = Check.told(TWO_LIMBS);
        CHECK.due("nothing was seen", bar.suspects(), 67);
        bar.saw(0, 12);
        CHECK.due("limb 0 hangs by both", bar.suspects(), 67);
        bar.saw(1, 9);
        CHECK.due("string 1 was cut", bar.suspects(), 2);
        bar.saw(1, 15);
        CHECK.due("not both", bar.suspects(), 0);
        bar.forget();
        bar.saw(1, 15);
        CHECK.due("string 0, or nothing", bar.suspects(), 65);
        bar.forget();
        bar.saw(0, 0);
        CHECK.due("by no one string", bar.suspects(), 0);
        PuppetBar none = Check.told("l0 0 1;");
        CHECK.due("no strings", none.suspects(), 64);
        none.saw(0, 1);
        CHECK.due("no strings", none.suspects(), 0);
    }

    private static void suspectsOfCutOnes() {
        PuppetBar bar = Check.told(TWO_LIMBS);
        bar.cuts(0);
        CHECK.due("not the cut one", bar.suspects(), 66);
        bar.saw(0, 0);
        CHECK.due("string 1 then, too", bar.suspects(), 2);
        bar.lifts(-5);
        CHECK.due("by heights as they are now", bar.suspects(), 2);
        bar.undo();
        bar.undo();
        CHECK.due("string 0 holds it", bar.suspects(), 0);
    }

    private static void holes() {
        PuppetBar bar = Check.told(TWO_LIMBS);
        CHECK.due("nothing was seen", bar.holes(1), 127);
        bar.tilts(-2);
        // String 1 ends at 15 - 2 * (hole - 3); limb 1 is held at 9 by the bone.
        bar.saw(1, 9);
        CHECK.due("in hole 6", bar.holes(1), 64);
        CHECK.due("string 0 elsewhere does nothing", bar.holes(0), 0);
        bar.forget();
        bar.saw(1, 13);
        CHECK.due("in hole 4", bar.holes(1), 16);
        bar.forget();
        bar.saw(0, 12);
        CHECK.due("wherever it is slack enough", bar.holes(1), 0x78);
        CHECK.due("no such string", bar.holes(2), BAD);
        CHECK.due("no such string", bar.holes(-1), BAD);
        bar.cuts(1);
        CHECK.due("it is cut", bar.holes(1), STATE);
        CHECK.due("the other is not", bar.holes(0), 8);
        CHECK.due("BAD ahead of STATE", bar.holes(2), BAD);
    }

    private static void looking() {
        // Without string 0, 1, 2 limb 1, 2, 3 comes down; limb 0 hangs by any of them.
        PuppetBar bar = Check.told("l0 0 1;l0 9 1;l0 9 1;l0 9 1;s1 3 5 1;s2 3 5 1;s3 3 5 1;");
        CHECK.due("suspects", bar.suspects(), 71);
        CHECK.due("limb 1 leaves three at most, limb 0 four", bar.look(), 1);
        bar.saw(1, 15);
        CHECK.due("suspects", bar.suspects(), 70);
        CHECK.due("limb 2 is next", bar.look(), 2);
        bar.saw(2, 15);
        CHECK.due("suspects", bar.suspects(), 68);
        CHECK.due("limb 3 is next", bar.look(), 3);
        bar.saw(3, 15);
        CHECK.due("suspects", bar.suspects(), 64);
        CHECK.due("one is left: all limbs are alike", bar.look(), 0);
    }

    private static void lookingOfLikeOnes() {
        PuppetBar bar = Check.told("l0 0 1;l0 1 1;l0 1 1;s1 3 5 1;s2 3 5 1;");
        CHECK.due("suspects", bar.suspects(), 67);
        CHECK.due("limbs 1 and 2 leave two, limb 0 three", bar.look(), 1);
        // Limb 0: 9 (without 0), 15, 15, 15; limb 1: 18, 18, 15 (without 2), 18.
        PuppetBar parts = Check.told("l0 0 1;l0 9 1;s0 3 5 1;s1 3 5 1;s1 3 2 1;");
        CHECK.due("the lowest of like ones", parts.look(), 0);
        // Limb 0: 13, 13, 13, 13; limb 1: 15, 15, 11, 15.
        PuppetBar one = Check.told("l0 0 1;l0 2 1;s0 3 8 1;s0 3 7 1;s1 3 5 1;");
        CHECK.due("suspects", one.suspects(), 71);
        CHECK.due("the only one that parts them", one.look(), 1);
        // Limb 0: 13, 15, 15; limb 1: 10, 12, 12.
        PuppetBar alike = Check.told("l0 0 1;l0 3 1;s0 3 5 1;s0 3 7 1;");
        CHECK.due("suspects", alike.suspects(), 67);
        CHECK.due("limbs 0 and 1 alike", alike.look(), 0);
        alike.saw(0, 13);
        CHECK.due("string 0 was cut", alike.suspects(), 1);
    }

    private static void lookingAtNothing() {
        PuppetBar bar = Check.told(TWO_LIMBS);
        bar.saw(0, 49);
        CHECK.due("no suspects", bar.look(), NONE);
        CHECK.due("no limbs", new PuppetBar().look(), NONE);
        CHECK.due("no strings", Check.told("l0 0 1;").look(), 0);
    }
}
