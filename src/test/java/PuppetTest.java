/** Promises 1 and 5 to 8: a new object, and what is told of limbs, strings and beats. */
public final class PuppetTest {
    private static final Check CHECK = new Check("PuppetTest");
    /** Lift 18, tilt 1: the strings end at 10, 11, 6 and -5. */
    private static final String FIVE_LIMBS = "l0 0 5;l0 3 2;l0 4 3;l1 2 1;l2 5 4;"
        + "s0 3 8 12;s1 1 5 3;s4 6 15 9;s3 0 20 2;b10 3;b30 1;b20 6;b12 0;u18;t4;";

    public static void main(String[] args) {
        aNewObject();
        limbs();
        bearers();
        strings();
        tautStrings();
        aStringThatEndsAtTheGround();
        beats();
        bonesBetween();
        CHECK.end();
    }

    private static void row(String name, int[] got, int... want) {
        for (int i = 0; i < want.length; i++) {
            CHECK.due(name + " " + i, got[i], want[i]);
        }
    }

    private static void aNewObject() {
        PuppetBar bar = new PuppetBar();
        for (int what = 0; what <= 5; what++) {
            CHECK.due("count of a new one", bar.count(what), 0);
        }
        CHECK.due("lift", bar.now(0), 20);
        for (int what = 1; what <= 7; what++) {
            CHECK.due("now of a new one", bar.now(what), 0);
        }
        CHECK.due("limb", bar.limb(0, 0), PuppetBar.BAD);
        CHECK.due("string", bar.string(0, 0), PuppetBar.NO);
        CHECK.due("beat", bar.beat(0, 0), PuppetBar.NO);
        CHECK.due("far", bar.far(0, 0), PuppetBar.BAD);
        CHECK.due("undo", bar.undo(), PuppetBar.STATE);
        CHECK.due("back", bar.back(0), PuppetBar.STATE);
        CHECK.due("suspects", bar.suspects(), 64);
        CHECK.due("look", bar.look(), PuppetBar.NONE);
        CHECK.due("play", bar.play(-1), 0);
        CHECK.due("reach", bar.reach(0, 0), 0);
        CHECK.due("reach", bar.reach(1, 0), PuppetBar.NO);
        CHECK.due("trace", bar.trace(), 0);
    }

    private static int[] ofLimb(PuppetBar bar, int l) {
        int[] all = new int[5];
        for (int what = 0; what < 5; what++) {
            all[what] = bar.limb(l, what);
        }
        return all;
    }

    private static int[] ofString(PuppetBar bar, int s) {
        int[] all = new int[8];
        for (int what = 0; what < 8; what++) {
            all[what] = bar.string(s, what);
        }
        return all;
    }

    private static void limbs() {
        PuppetBar bar = Check.told(FIVE_LIMBS);
        row("limb 0", ofLimb(bar, 0), PuppetBar.NONE, 0, 5, 10, 0);
        row("limb 1", ofLimb(bar, 1), 0, 3, 2, 11, 1);
        row("limb 2", ofLimb(bar, 2), 0, 4, 3, 6, 0);
        row("limb 3", ofLimb(bar, 3), 1, 2, 1, 9, 1);
        row("limb 4", ofLimb(bar, 4), 2, 5, 4, 6, 2);
        CHECK.due("no such limb", bar.limb(5, 0), PuppetBar.BAD);
        CHECK.due("no such limb", bar.limb(-1, 0), PuppetBar.BAD);
        CHECK.due("no such limb", bar.limb(Integer.MAX_VALUE, 0), PuppetBar.BAD);
        CHECK.due("no such what", bar.limb(0, 5), PuppetBar.BAD);
        CHECK.due("no such what", bar.limb(0, -1), PuppetBar.BAD);
    }

    private static void bearers() {
        PuppetBar alike = Check.told("l0 0 1;l0 2 1;s1 3 8 9;s0 3 10 9;s0 3 10 9;");
        CHECK.due("as high by all three", alike.limb(0, 3), 10);
        CHECK.due("the lowest bears", alike.limb(0, 4), 0);
        alike.cuts(0);
        CHECK.due("the lowest that is not cut", alike.limb(0, 4), 1);
        alike.cuts(1);
        alike.cuts(2);
        CHECK.due("on the ground", alike.limb(0, 3), 0);
        CHECK.due("borne by none", alike.limb(0, 4), PuppetBar.NONE);
    }

    private static void strings() {
        PuppetBar bar = Check.told(FIVE_LIMBS);
        row("string 0", ofString(bar, 0), 0, 3, 8, 12, 10, 1, 8, 0);
        row("string 1", ofString(bar, 1), 1, 1, 5, 3, 11, 1, 3, 0);
        row("string 2", ofString(bar, 2), 4, 6, 15, 9, 6, 1, 4, 0);
        row("string 3", ofString(bar, 3), 3, 0, 20, 2, -5, 0, 0, 0);
        bar.cuts(0);
        row("string 0 cut", ofString(bar, 0), 0, 3, 8, 12, 10, 0, 0, 1);
        row("string 1 then", ofString(bar, 1), 1, 1, 5, 3, 11, 1, 11, 0);
        CHECK.due("no such string", bar.string(4, 0), PuppetBar.NO);
        CHECK.due("no such string", bar.string(-1, 0), PuppetBar.NO);
        CHECK.due("no such what", bar.string(0, 8), PuppetBar.NO);
        CHECK.due("no such what", bar.string(0, -1), PuppetBar.NO);
        CHECK.due("no such what", bar.string(0, Integer.MIN_VALUE), PuppetBar.NO);
    }

    private static void tautStrings() {
        PuppetBar bar = Check.told("l0 0 1;l0 2 1;s0 3 0 1;s1 3 3 1;s1 3 2 1;s0 3 0 1;");
        CHECK.due("the longer one bears nothing", bar.string(1, 5), 0);
        CHECK.due("the bone holds as high as the string", bar.string(2, 5), 1);
        CHECK.due("but the lowest bears", bar.string(2, 6), 0);
        CHECK.due("a second one alike is taut", bar.string(3, 5), 1);
        CHECK.due("without a load", bar.string(3, 6), 0);
        CHECK.due("the first bears both", bar.string(0, 6), 2);
    }

    private static void aStringThatEndsAtTheGround() {
        PuppetBar bar = Check.told("l0 0 1;s0 3 20 1;");
        CHECK.due("end", bar.string(0, 4), 0);
        CHECK.due("height", bar.limb(0, 3), 0);
        CHECK.due("not taut", bar.string(0, 5), 0);
        CHECK.due("bears none", bar.limb(0, 4), PuppetBar.NONE);
        bar.lifts(1);
        CHECK.due("end", bar.string(0, 4), 1);
        CHECK.due("taut", bar.string(0, 5), 1);
        CHECK.due("bears it", bar.limb(0, 4), 0);
    }

    private static void beats() {
        PuppetBar bar = Check.told(FIVE_LIMBS + "b40 6;b0 0;");
        int[] lifts = {10, 30, 20, 12, 40, 0};
        int[] tilts = {0, -2, 3, -3, 3, -3};
        for (int b = 0; b < lifts.length; b++) {
            CHECK.due("lift of beat " + b, bar.beat(b, 0), lifts[b]);
            CHECK.due("tilt of beat " + b, bar.beat(b, 1), tilts[b]);
        }
        CHECK.due("no such beat", bar.beat(6, 0), PuppetBar.NO);
        CHECK.due("no such beat", bar.beat(-1, 0), PuppetBar.NO);
        CHECK.due("no such what", bar.beat(0, 2), PuppetBar.NO);
        CHECK.due("no such what", bar.beat(0, -1), PuppetBar.NO);
    }

    private static void bonesBetween() {
        PuppetBar bar = Check.told(FIVE_LIMBS);
        int[][] far = {{0, 3, 4, 5, 9}, {3, 0, 7, 2, 12}, {4, 7, 0, 9, 5}, {5, 2, 9, 0, 14}, {9, 12, 5, 14, 0}};
        for (int l = 0; l < 5; l++) {
            row("far from " + l, new int[] {bar.far(l, 0), bar.far(l, 1), bar.far(l, 2), bar.far(l, 3),
                bar.far(l, 4)}, far[l]);
        }
        CHECK.due("no such limb", bar.far(5, 0), PuppetBar.BAD);
        CHECK.due("no such limb", bar.far(0, 5), PuppetBar.BAD);
        CHECK.due("no such limb", bar.far(-1, 0), PuppetBar.BAD);
        CHECK.due("no such limb", bar.far(0, -1), PuppetBar.BAD);
        PuppetBar chain = Check.told("l0 0 1;l0 9 1;l1 9 1;l2 9 1;l3 9 1;l4 9 1;l5 9 1;l6 9 1;");
        CHECK.due("seven long bones", chain.far(7, 0), 63);
    }
}
