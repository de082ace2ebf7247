/** Each boundary that the document names for how a puppet hangs, and of promises 1 and 5 to 8. */
public final class EdgesOfPuppetTest {
    private static final Check CHECK = new Check("EdgesOfPuppetTest");
    private static final int BAD = PuppetBar.BAD, STATE = PuppetBar.STATE, NONE = PuppetBar.NONE, NO = PuppetBar.NO;
    private static final int LEAST = Integer.MIN_VALUE, MOST = Integer.MAX_VALUE;
    /** Eight limbs in a chain of bones of 1. */
    private static final String CHAIN = "l0 0 9;l0 1 9;l1 1 9;l2 1 9;l3 1 9;l4 1 9;l5 1 9;l6 1 9;";

    public static void main(String[] args) {
        newCounts();
        newNow();
        newHasNoSuchThing();
        newHasNothingDone();
        newCanBeMoved();
        limbsThereAre();
        whatOfALimb();
        parentOfTheFirst();
        heightAtLeastZero();
        heightWithoutStrings();
        borneByTheLowest();
        borneByNone();
        stringsThereAre();
        whatOfAString();
        ends();
        tautAboveZero();
        tautAsHighAsItsLimb();
        tautWhenCut();
        loads();
        noStringIsCutAtFirst();
        beatsThereAre();
        whatOfABeat();
        farOfLimbsThereAre();
        farLeastAndMost();
        the512thCall();
        CHECK.end();
    }

    private static void newCounts() {
        CHECK.sentence("A new object: as told; no LIMBS, no STRINGS");
        for (int what = 0; what <= 5; what++) {
            CHECK.due("count(" + what + ")", new PuppetBar().count(what), 0);
        }
        CHECK.due("trace", new PuppetBar().trace(), 0);
        CHECK.due("clear", new PuppetBar().clear(), 0);
        CHECK.due("forget", new PuppetBar().forget(), 0);
        CHECK.due("puppet", new PuppetBar().puppet(), 0);
    }

    private static void newNow() {
        CHECK.sentence("LIFT (20 at first), TILT (0 at first)");
        int[] due = {20, 0, 0, 0, 0, 0, 0, 0};
        for (int what = 0; what <= 7; what++) {
            CHECK.due("now(" + what + ")", new PuppetBar().now(what), due[what]);
        }
    }

    private static void newHasNoSuchThing() {
        CHECK.sentence("A new object: there is no such LIMB, STRING, BEAT");
        PuppetBar bar = new PuppetBar();
        CHECK.due("limb", bar.limb(0, 0), BAD);
        CHECK.due("string", bar.string(0, 0), NO);
        CHECK.due("beat", bar.beat(0, 0), NO);
        CHECK.due("far", bar.far(0, 0), BAD);
        CHECK.due("cuts", bar.cuts(0), BAD);
        CHECK.due("ties", bar.ties(0, 0, 0), BAD);
        CHECK.due("hangs", bar.hangs(0, 0), BAD);
        CHECK.due("beats", bar.beats(0), BAD);
        CHECK.due("fell", bar.fell(0), BAD);
        CHECK.due("path", bar.path(0, 0), BAD);
        CHECK.due("nods", bar.nods(0), BAD);
        CHECK.due("odds", bar.odds(0, 0, 0), BAD);
        CHECK.due("saw", bar.saw(0, 0), BAD);
        CHECK.due("holes", bar.holes(0), BAD);
        CHECK.due("mark", bar.mark(0, 0), NO);
        CHECK.due("reach of a limb", bar.reach(1, 0), NO);
    }

    private static void newHasNothingDone() {
        CHECK.sentence("A new object: nothing CUT, SEEN, kept or to be UNDONE");
        PuppetBar bar = new PuppetBar();
        CHECK.due("undo", bar.undo(), STATE);
        CHECK.due("image 0", bar.back(0), STATE);
        CHECK.due("image 1", bar.back(1), STATE);
        CHECK.due("suspects", bar.suspects(), 64);
        CHECK.due("look", bar.look(), NONE);
        CHECK.due("moves", bar.play(-1), 0);
        CHECK.due("first beat", bar.play(0), NONE);
        CHECK.due("steps", bar.reach(0, 0), 0);
        CHECK.due("lift", bar.reach(0, 1), 20);
        CHECK.due("tilt", bar.reach(0, 2), 0);
        CHECK.due("keep", bar.keep(0), 20);
    }

    private static void newCanBeMoved() {
        CHECK.sentence("A new object: the bar is there without LIMBS, too");
        PuppetBar bar = new PuppetBar();
        CHECK.due("lifts", bar.lifts(5), 25);
        CHECK.due("tilts", bar.tilts(-3), 0);
        CHECK.due("holds", bar.holds(), 0);
        CHECK.due("steps", bar.count(4), 3);
        CHECK.due("undo", bar.undo(), 2);
        CHECK.due("undo", bar.undo(), 1);
        CHECK.due("undo", bar.undo(), 0);
        CHECK.due("lift", bar.now(0), 20);
    }

    private static void limbsThereAre() {
        CHECK.sentence("limb: BAD (there is no such thing)");
        for (int n = 1; n <= 8; n++) {
            PuppetBar bar = Check.told(CHAIN.substring(0, 7 * n));
            for (int what = 0; what <= 4; what++) {
                CHECK.due("below the first", bar.limb(-1, what), BAD);
                CHECK.isTrue("the first", bar.limb(0, what) != BAD);
                CHECK.isTrue("the last", bar.limb(n - 1, what) != BAD);
                CHECK.due("behind the last", bar.limb(n, what), BAD);
                CHECK.due("far below", bar.limb(LEAST, what), BAD);
                CHECK.due("far above", bar.limb(MOST, what), BAD);
            }
        }
    }

    private static void whatOfALimb() {
        CHECK.sentence("limb: what 0 .. 4; BAD");
        PuppetBar bar = Check.told("l0 0 3;l0 4 5;s1 3 1 2;");
        int[] due = {0, 4, 5, 19, 0};
        for (int what = 0; what <= 4; what++) {
            CHECK.due("limb(1, " + what + ")", bar.limb(1, what), due[what]);
        }
        for (int what : new int[] {-1, 5, LEAST, MOST}) {
            CHECK.due("limb(1, " + what + ")", bar.limb(1, what), BAD);
        }
    }

    private static void parentOfTheFirst() {
        CHECK.sentence("Of a LIMB: 0 PARENT (NONE)");
        PuppetBar bar = Check.told(CHAIN);
        CHECK.due("the first", bar.limb(0, 0), NONE);
        CHECK.due("the second", bar.limb(1, 0), 0);
        CHECK.due("the eighth", bar.limb(7, 0), 6);
    }

    private static void heightAtLeastZero() {
        CHECK.sentence("HEIGHT of a LIMB: the greatest of 0 and END less FAR; of HEIGHT 0 is on the GROUND");
        // The string ends at 3: limbs of the chain are at 3, 2, 1, 0 and would be at -1 and so on.
        PuppetBar bar = Check.told(CHAIN + "s0 3 17 40;");
        int[] due = {3, 2, 1, 0, 0, 0, 0, 0};
        for (int l = 0; l < 8; l++) {
            CHECK.due("height of limb " + l, bar.limb(l, 3), due[l]);
            CHECK.due("bearer of limb " + l, bar.limb(l, 4), due[l] > 0 ? 0 : NONE);
        }
        CHECK.due("on the ground", bar.now(3), 0xf8);
        CHECK.due("heights together", bar.now(5), 6);
        PuppetBar below = Check.told("l0 0 1;s0 3 40 1;u0;");
        CHECK.due("far below the ground", below.limb(0, 3), 0);
    }

    private static void heightWithoutStrings() {
        CHECK.sentence("HEIGHT: for each STRING that is not CUT; there may be none");
        PuppetBar none = Check.told(CHAIN);
        CHECK.due("all on the ground", none.now(3), 255);
        CHECK.due("heights together", none.now(5), 0);
        PuppetBar cut = Check.told(CHAIN + "s0 3 0 1;s7 3 0 1;");
        cut.cuts(0);
        CHECK.due("by the other one", cut.limb(0, 3), 13);
        cut.cuts(1);
        CHECK.due("all on the ground", cut.now(3), 255);
        CHECK.due("borne by none", cut.limb(7, 4), NONE);
    }

    private static void borneByTheLowest() {
        CHECK.sentence("BORNE by the lowest of those STRINGS by which it is so high");
        PuppetBar bar = Check.told("l0 0 1;s0 3 6 1;" + "s0 3 5 1;".repeat(5));
        CHECK.due("not by the longer one ahead", bar.limb(0, 4), 1);
        for (int s = 1; s <= 4; s++) {
            bar.cuts(s);
            CHECK.due("the next one", bar.limb(0, 4), s + 1);
        }
        bar.cuts(5);
        CHECK.due("the longer one", bar.limb(0, 4), 0);
    }

    private static void borneByNone() {
        CHECK.sentence("4 by which STRING it is BORNE (NONE: on the GROUND)");
        PuppetBar bar = Check.told("l0 0 1;s0 3 20 1;s0 3 21 1;");
        CHECK.due("ends at 0", bar.limb(0, 4), NONE);
        bar.lifts(1);
        CHECK.due("ends at 1", bar.limb(0, 4), 0);
        bar.cuts(0);
        CHECK.due("the other ends at 0", bar.limb(0, 4), NONE);
        bar.lifts(1);
        CHECK.due("the other ends at 1", bar.limb(0, 4), 1);
    }

    private static void stringsThereAre() {
        CHECK.sentence("string: NO: BAD (there is no such thing)");
        for (int n = 1; n <= 6; n++) {
            PuppetBar bar = Check.told("l0 0 1;" + "s0 3 0 1;".repeat(n));
            for (int what = 0; what <= 7; what++) {
                CHECK.due("below the first", bar.string(-1, what), NO);
                CHECK.isTrue("the first", bar.string(0, what) != NO);
                CHECK.isTrue("the last", bar.string(n - 1, what) != NO);
                CHECK.due("behind the last", bar.string(n, what), NO);
                CHECK.due("far below", bar.string(LEAST, what), NO);
                CHECK.due("far above", bar.string(MOST, what), NO);
            }
        }
    }

    private static void whatOfAString() {
        CHECK.sentence("string: what 0 .. 7; NO: BAD");
        PuppetBar bar = Check.told("l0 0 3;l0 4 5;s1 6 2 7;t4;");
        int[] due = {1, 6, 2, 7, 21, 1, 8, 0};
        for (int what = 0; what <= 7; what++) {
            CHECK.due("string(0, " + what + ")", bar.string(0, what), due[what]);
        }
        for (int what : new int[] {-1, 8, LEAST, MOST}) {
            CHECK.due("string(0, " + what + ")", bar.string(0, what), NO);
        }
    }

    private static void ends() {
        CHECK.sentence("END of a STRING: LIFT, and TILT times (HOLE less 3), less LENGTH");
        CHECK.due("the highest", Check.told("l0 0 1;s0 6 0 1;u40;t6;").string(0, 4), 49);
        CHECK.due("as high the other way", Check.told("l0 0 1;s0 0 0 1;u40;t0;").string(0, 4), 49);
        CHECK.due("the lowest", Check.told("l0 0 1;s0 6 40 1;u0;t0;").string(0, 4), -49);
        CHECK.due("as low the other way", Check.told("l0 0 1;s0 0 40 1;u0;t6;").string(0, 4), -49);
        CHECK.due("BAD is no answer here", Check.told("l0 0 1;s0 3 1 1;u0;").string(0, 4), -1);
        CHECK.due("NONE is no answer here", Check.told("l0 0 1;s0 3 9 1;u0;").string(0, 4), -9);
        for (int hole = 0; hole <= 6; hole++) {
            for (int tilt = -3; tilt <= 3; tilt++) {
                PuppetBar bar = Check.told("l0 0 1;s0 " + hole + " 5 1;t" + (tilt + 3) + ";");
                CHECK.due("hole " + hole + " tilt " + tilt, bar.string(0, 4), 15 + tilt * (hole - 3));
            }
        }
    }

    private static void tautAboveZero() {
        CHECK.sentence("TAUT, if END is above 0");
        PuppetBar bar = Check.told("l0 0 1;s0 3 20 1;");
        CHECK.due("ends at 0", bar.string(0, 5), 0);
        CHECK.due("bits", bar.now(4), 0);
        bar.lifts(-1);
        CHECK.due("ends at -1", bar.string(0, 5), 0);
        bar.lifts(2);
        CHECK.due("ends at 1", bar.string(0, 5), 1);
        CHECK.due("bits", bar.now(4), 1);
    }

    private static void tautAsHighAsItsLimb() {
        CHECK.sentence("TAUT, if HEIGHT of its LIMB is END");
        // Limb 1 is at 18 by string 0; the others end there at 17, 18 and 19.
        PuppetBar bar = Check.told("l0 0 1;l0 2 1;s0 3 0 1;s1 3 3 1;s1 3 2 1;");
        CHECK.due("one too long", bar.string(1, 5), 0);
        CHECK.due("just as long", bar.string(2, 5), 1);
        CHECK.due("bits", bar.now(4), 5);
        PuppetBar shorter = Check.told("l0 0 1;l0 2 1;s0 3 0 1;s1 3 1 1;s1 3 2 1;");
        CHECK.due("the shorter one", shorter.string(1, 5), 1);
        CHECK.due("the other no more", shorter.string(2, 5), 0);
        CHECK.due("bits", shorter.now(4), 3);
        CHECK.due("all six", Check.told("l0 0 1;" + "s0 3 0 1;".repeat(6)).now(4), 63);
    }

    private static void tautWhenCut() {
        CHECK.sentence("TAUT, if it is not CUT");
        PuppetBar bar = Check.told("l0 0 1;s0 3 5 1;s0 3 5 1;");
        CHECK.due("both", bar.now(4), 3);
        bar.cuts(0);
        CHECK.due("the cut one", bar.string(0, 5), 0);
        CHECK.due("its limb is as high still", bar.limb(0, 3), bar.string(0, 4));
        CHECK.due("the other", bar.now(4), 2);
    }

    private static void loads() {
        CHECK.sentence("LOAD of a STRING: WEIGHTS of all that it BEARS");
        PuppetBar all = Check.told(CHAIN + "s0 3 0 1;s7 3 20 1;");
        CHECK.due("all limbs of the greatest weight", all.string(0, 6), 72);
        CHECK.due("none", all.string(1, 6), 0);
        all.cuts(0);
        CHECK.due("a cut one bears none", all.string(0, 6), 0);
        CHECK.due("none: it ends at 0", all.string(1, 6), 0);
        all.lifts(1);
        CHECK.due("one: it ends at 1", all.string(1, 6), 9);
        all.lifts(1);
        CHECK.due("two: it ends at 2", all.string(1, 6), 18);
    }

    private static void noStringIsCutAtFirst() {
        CHECK.sentence("No STRING is CUT at first");
        PuppetBar bar = Check.told("l0 0 1;" + "s0 3 0 1;".repeat(6));
        CHECK.due("bits", bar.now(2), 0);
        for (int s = 0; s < 6; s++) {
            CHECK.due("string(" + s + ", 7)", bar.string(s, 7), 0);
            bar.cuts(s);
            CHECK.due("string(" + s + ", 7)", bar.string(s, 7), 1);
        }
        CHECK.due("bits", bar.now(2), 63);
        Check.read(bar, "l0 0 1;" + "s0 3 0 1;".repeat(6));
        CHECK.due("bits, read anew", bar.now(2), 0);
    }

    private static void beatsThereAre() {
        CHECK.sentence("beat: NO: BAD (there is no such thing)");
        for (int n = 1; n <= 7; n++) {
            PuppetBar bar = Check.told("b7 4;".repeat(n));
            for (int what = 0; what <= 1; what++) {
                int due = what == 0 ? 7 : 1;
                CHECK.due("below the first", bar.beat(-1, what), NO);
                CHECK.due("the first", bar.beat(0, what), due);
                CHECK.due("the last", bar.beat(n - 1, what), due);
                CHECK.due("behind the last", bar.beat(n, what), NO);
                CHECK.due("far below", bar.beat(LEAST, what), NO);
                CHECK.due("far above", bar.beat(MOST, what), NO);
            }
        }
    }

    private static void whatOfABeat() {
        CHECK.sentence("beat: 0 LIFT, 1 TILT; NO: BAD");
        PuppetBar bar = Check.told("b0 0;b40 6;b8 2;");
        CHECK.due("least lift", bar.beat(0, 0), 0);
        CHECK.due("least tilt", bar.beat(0, 1), -3);
        CHECK.due("most lift", bar.beat(1, 0), 40);
        CHECK.due("most tilt", bar.beat(1, 1), 3);
        CHECK.due("a tilt of -1 is not BAD", bar.beat(2, 1), -1);
        for (int what : new int[] {-1, 2, LEAST, MOST}) {
            CHECK.due("beat(0, " + what + ")", bar.beat(0, what), NO);
        }
    }

    private static void farOfLimbsThereAre() {
        CHECK.sentence("far: BAD (there is no such thing)");
        for (int n = 1; n <= 8; n++) {
            PuppetBar bar = Check.told(CHAIN.substring(0, 7 * n));
            CHECK.due("from the first to the last", bar.far(0, n - 1), n - 1);
            CHECK.due("from the last to the first", bar.far(n - 1, 0), n - 1);
            for (int l : new int[] {-1, n, LEAST, MOST}) {
                CHECK.due("far(" + l + ", 0)", bar.far(l, 0), BAD);
                CHECK.due("far(0, " + l + ")", bar.far(0, l), BAD);
                CHECK.due("far(" + l + ", " + l + ")", bar.far(l, l), BAD);
            }
        }
    }

    private static void farLeastAndMost() {
        CHECK.sentence("FAR between two LIMBS: the BONES between them, together");
        PuppetBar bar = Check.told("l0 0 1;l0 9 1;l1 9 1;l2 9 1;l3 9 1;l4 9 1;l5 9 1;l6 9 1;");
        for (int l = 0; l < 8; l++) {
            for (int k = 0; k < 8; k++) {
                CHECK.due("far(" + l + ", " + k + ")", bar.far(l, k), 9 * Math.abs(l - k));
            }
        }
        PuppetBar twigs = Check.told("l0 0 1;l0 1 1;l0 2 1;l1 3 1;l2 4 1;");
        CHECK.due("from twig to twig", twigs.far(3, 4), 10);
        CHECK.due("from a twig to another's root", twigs.far(3, 2), 6);
        CHECK.due("the bones are between, not the limbs' own", twigs.far(1, 3), 3);
    }

    private static void the512thCall() {
        CHECK.sentence("An object is used for at most 512 calls");
        PuppetBar bar = new PuppetBar();
        Check.type(bar, "l0 0 9;s0 3 1 1;");
        CHECK.due("call 17", bar.puppet(), 2);
        for (int call = 18; call <= 510; call++) {
            CHECK.due("mark", bar.mark(5, 0), 39);
        }
        CHECK.due("call 511", bar.trace(), 493L * 100001);
        CHECK.due("call 512", bar.holds(), 1);
    }
}
