/** Each boundary that the document names for what is done and undone, and of promises 9 to 17. */
public final class EdgesOfDoneTest {
    private static final Check CHECK = new Check("EdgesOfDoneTest");
    private static final int BAD = PuppetBar.BAD, STATE = PuppetBar.STATE, NO = PuppetBar.NO;
    private static final int LEAST = Integer.MIN_VALUE, MOST = Integer.MAX_VALUE;
    /** Eight limbs in a chain of bones of 1. */
    private static final String CHAIN = "l0 0 1;l0 1 1;l1 1 1;l2 1 1;l3 1 1;l4 1 1;l5 1 1;l6 1 1;";
    private static final String SIX_STRINGS = "l0 0 1;" + "s0 3 0 1;".repeat(6);

    public static void main(String[] args) {
        liftedByHowMuch();
        liftWithinBounds();
        tiltedToAnother();
        cutOnce();
        cutStringsThereAre();
        cutUntilAllAreOnTheGround();
        tiedNumbers();
        tiedOnlyIfCut();
        tiedUntilAllAreOnTheGround();
        hungIntoAnotherHole();
        hungNumbers();
        hungWhenCut();
        heldLoadLikeStrength();
        heldOneBehindAnother();
        heldNone();
        beatsThereAre();
        beatToWhereItIs();
        beatsAtTheBounds();
        undoneNone();
        undoneTenAreKnown();
        undoneBehindAWrapAround();
        undoneEachDeed();
        undoneIsNotUndone();
        whatOfNow();
        groundBits();
        needNone();
        needAll();
        needTheLeastBits();
        needNotCutOnes();
        crossedNoneAndAll();
        crossedLikeOnes();
        crossedNotCutOnes();
        badAheadOfState();
        CHECK.end();
    }

    private static void liftedByHowMuch() {
        CHECK.sentence("LIFTED by n (-5 .. 5, not 0): LIFT then. BAD");
        for (int n = -5; n <= 5; n++) {
            CHECK.due("lifts(" + n + ")", new PuppetBar().lifts(n), n == 0 ? BAD : 20 + n);
        }
        for (int n : new int[] {0, 6, -6, 10, -10, LEAST, LEAST + 1, MOST}) {
            PuppetBar bar = new PuppetBar();
            CHECK.due("lifts(" + n + ")", bar.lifts(n), BAD);
            CHECK.due("lift", bar.now(0), 20);
        }
    }

    private static void liftWithinBounds() {
        CHECK.sentence("STATE: it would be below 0, above 40");
        for (int lift = 0; lift <= 40; lift++) {
            for (int n = -5; n <= 5; n++) {
                boolean within = lift + n >= 0 && lift + n <= 40;
                PuppetBar bar = Check.told("u" + lift + ";");
                CHECK.due(lift + " by " + n, bar.lifts(n), n == 0 ? BAD : within ? lift + n : STATE);
                CHECK.due(lift + " then", bar.now(0), within ? lift + n : lift);
            }
        }
    }

    private static void tiltedToAnother() {
        CHECK.sentence("TILTED to another TILT: what it was. NO: BAD, it is so");
        for (int tilt = -3; tilt <= 3; tilt++) {
            for (int n = -4; n <= 4; n++) {
                boolean may = n != tilt && n >= -3 && n <= 3;
                PuppetBar bar = Check.told("t" + (tilt + 3) + ";");
                CHECK.due(tilt + " to " + n, bar.tilts(n), may ? tilt : NO);
                CHECK.due(tilt + " then", bar.now(1), may ? n : tilt);
                CHECK.due("steps", bar.count(4), may ? 1 : 0);
            }
        }
        CHECK.due("tilts(MIN)", new PuppetBar().tilts(LEAST), NO);
        CHECK.due("tilts(MAX)", new PuppetBar().tilts(MOST), NO);
    }

    private static void cutOnce() {
        CHECK.sentence("CUT: a STRING. STATE: it is");
        PuppetBar bar = Check.told(SIX_STRINGS);
        for (int s = 0; s < 6; s++) {
            CHECK.due("cut", bar.cuts(s), s == 5 ? 1 : 0);
            CHECK.due("cut again", bar.cuts(s), STATE);
        }
        CHECK.due("bits", bar.now(2), 63);
        CHECK.due("steps", bar.count(4), 6);
    }

    private static void cutStringsThereAre() {
        CHECK.sentence("cuts: BAD (there is no such thing)");
        for (int n = 0; n <= 6; n++) {
            PuppetBar bar = Check.told(SIX_STRINGS.substring(0, 7 + 9 * n));
            for (int s : new int[] {-1, n, LEAST, MOST, 32}) {
                CHECK.due("cuts(" + s + ") of " + n, bar.cuts(s), BAD);
            }
            CHECK.due("bits", bar.now(2), 0);
            if (n > 0) {
                CHECK.due("the last of " + n, bar.cuts(n - 1), n == 1 ? 1 : 0);
            }
        }
    }

    private static void cutUntilAllAreOnTheGround() {
        CHECK.sentence("cuts: how many LIMBS are on the GROUND then");
        // The strings end at 20, 8, 5 and 1, all on limb 0.
        PuppetBar bar = Check.told(CHAIN + "s0 3 0 1;s0 3 12 1;s0 3 15 1;s0 3 19 1;");
        int[] due = {0, 3, 7, 8};
        for (int s = 0; s < 4; s++) {
            CHECK.due("cuts(" + s + ")", bar.cuts(s), due[s]);
        }
    }

    private static void tiedNumbers() {
        CHECK.sentence("TIED, with a LIMB and a LENGTH. BAD");
        int[][] bad = {{-1, 0, 0}, {6, 0, 0}, {LEAST, 0, 0}, {MOST, 0, 0}, {5, -1, 0}, {5, 8, 0}, {5, LEAST, 0},
            {5, MOST, 0}, {5, 0, -1}, {5, 0, 41}, {5, 0, LEAST}, {5, 0, MOST}, {-1, -1, -1}, {6, 8, 41}};
        String text = CHAIN + "s0 3 9 1;".repeat(6);
        for (int[] n : bad) {
            PuppetBar bar = Check.told(text);
            bar.cuts(5);
            CHECK.due("ties(" + n[0] + ", " + n[1] + ", " + n[2] + ")", bar.ties(n[0], n[1], n[2]), BAD);
            CHECK.due("cut still", bar.now(2), 32);
            CHECK.due("limb", bar.string(5, 0), 0);
            CHECK.due("length", bar.string(5, 2), 9);
            CHECK.due("steps", bar.count(4), 1);
        }
        int[][] good = {{0, 0, 0}, {5, 7, 40}, {0, 7, 0}, {5, 0, 40}};
        for (int[] n : good) {
            PuppetBar bar = Check.told(text);
            bar.cuts(n[0]);
            CHECK.due("ties(" + n[0] + ", " + n[1] + ", " + n[2] + ")", bar.ties(n[0], n[1], n[2]), 0);
            CHECK.due("limb", bar.string(n[0], 0), n[1]);
            CHECK.due("length", bar.string(n[0], 2), n[2]);
            CHECK.due("cut no more", bar.now(2), 0);
        }
    }

    private static void tiedOnlyIfCut() {
        CHECK.sentence("TIED: a CUT STRING is so no more. STATE: it is not CUT");
        PuppetBar bar = Check.told(SIX_STRINGS);
        CHECK.due("not cut", bar.ties(0, 0, 5), STATE);
        CHECK.due("length", bar.string(0, 2), 0);
        bar.cuts(0);
        CHECK.due("another", bar.ties(1, 0, 5), STATE);
        CHECK.due("cut", bar.ties(0, 0, 5), 0);
        CHECK.due("tied already", bar.ties(0, 0, 5), STATE);
        CHECK.due("steps", bar.count(4), 2);
        bar.cuts(0);
        CHECK.due("as it was is a step, too", bar.ties(0, 0, 5), 0);
        CHECK.due("steps", bar.count(4), 4);
    }

    private static void tiedUntilAllAreOnTheGround() {
        CHECK.sentence("ties: how many LIMBS are on the GROUND then");
        int[][] byLength = {{0, 0}, {12, 0}, {13, 1}, {18, 6}, {19, 7}, {20, 8}, {40, 8}};
        for (int[] due : byLength) {
            PuppetBar bar = Check.told(CHAIN + "s7 3 20 1;");
            CHECK.due("all down", bar.cuts(0), 8);
            CHECK.due("length " + due[0], bar.ties(0, 0, due[0]), due[1]);
        }
    }

    private static void hungIntoAnotherHole() {
        CHECK.sentence("HUNG: a STRING into another HOLE: the HOLE where it was. STATE: it is there");
        for (int was = 0; was <= 6; was++) {
            for (int hole = 0; hole <= 6; hole++) {
                PuppetBar bar = Check.told("l0 0 1;s0 " + was + " 0 1;");
                CHECK.due(was + " to " + hole, bar.hangs(0, hole), was == hole ? STATE : was);
                CHECK.due("hole", bar.string(0, 1), hole);
                CHECK.due("steps", bar.count(4), was == hole ? 0 : 1);
            }
        }
    }

    private static void hungNumbers() {
        CHECK.sentence("hangs: BAD");
        PuppetBar bar = Check.told(SIX_STRINGS);
        int[][] bad = {{-1, 0}, {6, 0}, {LEAST, 0}, {MOST, 0}, {0, -1}, {0, 7}, {0, LEAST}, {0, MOST}, {6, 7},
            {-1, 3}, {6, 3}};
        for (int[] n : bad) {
            CHECK.due("hangs(" + n[0] + ", " + n[1] + ")", bar.hangs(n[0], n[1]), BAD);
        }
        CHECK.due("steps", bar.count(4), 0);
        CHECK.due("the first", bar.hangs(0, 0), 3);
        CHECK.due("the last", bar.hangs(5, 6), 3);
        CHECK.due("behind the last of none", Check.told("l0 0 1;").hangs(0, 0), BAD);
    }

    private static void hungWhenCut() {
        CHECK.sentence("HUNG: (CUT ones, too)");
        PuppetBar bar = Check.told("l0 0 1;s0 3 0 1;t6;");
        bar.cuts(0);
        CHECK.due("hung", bar.hangs(0, 6), 3);
        CHECK.due("is there", bar.hangs(0, 6), STATE);
        CHECK.due("cut still", bar.now(2), 1);
        CHECK.due("end", bar.string(0, 4), 29);
        CHECK.due("height", bar.limb(0, 3), 0);
        CHECK.due("tied in that hole", bar.ties(0, 0, 1), 0);
        CHECK.due("height", bar.limb(0, 3), 28);
    }

    private static void heldLoadLikeStrength() {
        CHECK.sentence("HELD: as long as any STRING's LOAD is above its STRENGTH");
        CHECK.due("below by 1", Check.told("l0 0 8;s0 3 0 9;").holds(), 0);
        CHECK.due("just as much", Check.told("l0 0 9;s0 3 0 9;").holds(), 0);
        CHECK.due("above by 1", Check.told("l0 0 9;s0 3 0 8;").holds(), 1);
        CHECK.due("least strength", Check.told("l0 0 1;s0 3 0 1;").holds(), 0);
        CHECK.due("least strength", Check.told("l0 0 2;s0 3 0 1;").holds(), 1);
        String fortyOf = "l0 0 9;l0 1 9;l0 1 9;l0 1 9;l0 1 ";
        CHECK.due("most strength", Check.told(fortyOf + "4;s0 3 0 40;").holds(), 0);
        CHECK.due("most strength", Check.told(fortyOf + "5;s0 3 0 40;").holds(), 1);
        CHECK.due("on the ground is no load", Check.told("l0 0 9;s0 3 20 1;").holds(), 0);
    }

    private static void heldOneBehindAnother() {
        CHECK.sentence("holds: how many STRINGS are CUT by it; one behind another");
        String longer = "l0 0 9;s0 3 0 8;s0 3 1 8;s0 3 2 8;s0 3 3 8;s0 3 4 8;";
        PuppetBar all = Check.told(longer + "s0 3 5 8;");
        CHECK.due("all six", all.holds(), 6);
        CHECK.due("bits", all.now(2), 63);
        CHECK.due("on the ground", all.now(3), 1);
        CHECK.due("one step", all.count(4), 1);
        CHECK.due("undone at once", all.undo(), 0);
        CHECK.due("bits", all.now(2), 0);
        PuppetBar five = Check.told(longer + "s0 3 5 9;");
        CHECK.due("the sixth holds", five.holds(), 5);
        CHECK.due("bits", five.now(2), 31);
        CHECK.due("height", five.limb(0, 3), 15);
        five.cuts(5);
        CHECK.due("none is left", five.holds(), 0);
    }

    private static void heldNone() {
        CHECK.sentence("holds: none is CUT by it");
        PuppetBar none = new PuppetBar();
        CHECK.due("no limbs", none.holds(), 0);
        PuppetBar limbs = Check.told(CHAIN);
        CHECK.due("no strings", limbs.holds(), 0);
        CHECK.due("a step all the same", limbs.count(4), 1);
        CHECK.due("that can be undone", limbs.undo(), 0);
        PuppetBar cut = Check.told("l0 0 9;s0 3 0 1;");
        cut.cuts(0);
        CHECK.due("cut ones are not cut again", cut.holds(), 0);
    }

    private static void beatsThereAre() {
        CHECK.sentence("beats: BAD (there is no such thing)");
        for (int n = 0; n <= 7; n++) {
            PuppetBar bar = Check.told("l0 0 1;" + "b9 4;".repeat(n));
            for (int b : new int[] {-1, n, LEAST, MOST}) {
                CHECK.due("beats(" + b + ") of " + n, bar.beats(b), BAD);
            }
            CHECK.due("lift", bar.now(0), 20);
            CHECK.due("steps", bar.count(4), 0);
            if (n > 0) {
                CHECK.due("the first", bar.beats(0), 1);
                CHECK.due("the last", bar.beats(n - 1), 1);
                CHECK.due("lift", bar.now(0), 9);
                CHECK.due("tilt", bar.now(1), 1);
                CHECK.due("steps", bar.count(4), 2);
            }
        }
    }

    private static void beatToWhereItIs() {
        CHECK.sentence("BEAT: LIFT and TILT become a BEAT's (as they are, too)");
        PuppetBar bar = Check.told("b20 3;");
        CHECK.due("beat", bar.beats(0), 0);
        CHECK.due("steps", bar.count(4), 1);
        CHECK.due("undo", bar.undo(), 0);
    }

    private static void beatsAtTheBounds() {
        CHECK.sentence("beats: how many LIMBS are on the GROUND then");
        PuppetBar bar = Check.told(CHAIN + "s0 3 0 1;b0 0;b40 6;b1 3;b7 3;b8 3;");
        int[] due = {8, 0, 7, 1, 0};
        int[] lifts = {0, 40, 1, 7, 8};
        int[] tilts = {-3, 3, 0, 0, 0};
        for (int b = 0; b < 5; b++) {
            CHECK.due("beats(" + b + ")", bar.beats(b), due[b]);
            CHECK.due("lift", bar.now(0), lifts[b]);
            CHECK.due("tilt", bar.now(1), tilts[b]);
        }
    }

    private static void undoneNone() {
        CHECK.sentence("undo: STATE: none");
        PuppetBar bar = new PuppetBar();
        CHECK.due("none", bar.undo(), STATE);
        CHECK.due("lift", bar.now(0), 20);
        bar.lifts(1);
        CHECK.due("one", bar.undo(), 0);
        CHECK.due("none again", bar.undo(), STATE);
        CHECK.due("lift", bar.now(0), 20);
        bar.lifts(1);
        Check.read(bar, "u7;");
        CHECK.due("read anew", bar.undo(), STATE);
        CHECK.due("lift", bar.now(0), 7);
    }

    private static void undoneTenAreKnown() {
        CHECK.sentence("10 are known, older ones are lost");
        for (int steps = 0; steps <= 35; steps++) {
            PuppetBar bar = Check.told("u0;");
            for (int i = 0; i < steps; i++) {
                bar.lifts(1);
            }
            int known = Math.min(steps, 10);
            CHECK.due("known", bar.count(4), known);
            for (int i = 1; i <= known; i++) {
                CHECK.due("undo", bar.undo(), known - i);
                CHECK.due("lift", bar.now(0), steps - i);
            }
            CHECK.due("none", bar.undo(), STATE);
            CHECK.due("lift", bar.now(0), steps - known);
        }
    }

    private static void undoneBehindAWrapAround() {
        CHECK.sentence("10 are known: steps done behind steps that were undone");
        for (int undone = 0; undone <= 10; undone++) {
            for (int more = 0; more <= 11; more++) {
                PuppetBar bar = Check.told("u0;");
                lift(bar, 13);
                for (int i = 0; i < undone; i++) {
                    bar.undo();
                }
                lift(bar, more);
                int known = Math.min(10 - undone + more, 10);
                CHECK.due("known", bar.count(4), known);
                for (int i = 0; i < known; i++) {
                    bar.undo();
                }
                CHECK.due("lift", bar.now(0), 13 - undone + more - known);
                CHECK.due("none", bar.undo(), STATE);
            }
        }
    }

    private static void lift(PuppetBar bar, int steps) {
        for (int i = 0; i < steps; i++) {
            bar.lifts(1);
        }
    }

    private static void undoneEachDeed() {
        CHECK.sentence("UNDONE: the latest LIFTED, TILTED, CUT, TIED, HUNG, HELD, BEAT: all is as ahead of it");
        Twins.Deeds cut = bar -> {
            Check.read(bar, "l0 0 9;l0 3 4;s0 3 8 1;s1 5 15 3;b10 4;");
            bar.cuts(1);
        };
        Twins.unchanged(CHECK, "lifts", cut, bar -> bar.lifts(-5) + bar.undo(), 16);
        Twins.unchanged(CHECK, "tilts", cut, bar -> bar.tilts(-3) + bar.undo(), 1);
        Twins.unchanged(CHECK, "cuts", cut, bar -> bar.cuts(0) + bar.undo(), 3);
        Twins.unchanged(CHECK, "ties", cut, bar -> bar.ties(1, 0, 40) + bar.undo(), 1);
        Twins.unchanged(CHECK, "hangs", cut, bar -> bar.hangs(1, 0) + bar.undo(), 6);
        Twins.unchanged(CHECK, "holds", cut, bar -> bar.holds() + bar.undo(), 2);
        Twins.unchanged(CHECK, "beats", cut, bar -> bar.beats(0) + bar.undo(), 2);
    }

    private static void undoneIsNotUndone() {
        CHECK.sentence("undo: how many more may be (an undo is none)");
        PuppetBar bar = new PuppetBar();
        bar.lifts(1);
        bar.lifts(2);
        CHECK.due("undo", bar.undo(), 1);
        CHECK.due("known", bar.count(4), 1);
        CHECK.due("undo", bar.undo(), 0);
        CHECK.due("known", bar.count(4), 0);
        CHECK.due("none", bar.undo(), STATE);
    }

    private static void whatOfNow() {
        CHECK.sentence("now: what 0 .. 7. NO: BAD");
        PuppetBar bar = Check.told("l0 0 1;l0 1 1;s1 0 20 1;s0 3 15 1;s1 4 19 1;u21;t2;");
        bar.cuts(0);
        // Strings 1 and 2 end at 6 and 1; limbs are at 6 and 5.
        int[] due = {21, -1, 1, 0, 2, 11, 2, 0};
        for (int what = 0; what <= 7; what++) {
            CHECK.due("now(" + what + ")", bar.now(what), due[what]);
        }
        for (int what : new int[] {-1, 8, LEAST, MOST}) {
            CHECK.due("now(" + what + ")", bar.now(what), NO);
        }
    }

    private static void groundBits() {
        CHECK.sentence("3 LIMBS on the GROUND (bits), 5 all HEIGHTS together");
        PuppetBar bar = Check.told(CHAIN + "s0 3 0 1;u8;");
        CHECK.due("none", bar.now(3), 0);
        CHECK.due("heights", bar.now(5), 36);
        bar.lifts(-1);
        CHECK.due("the last", bar.now(3), 128);
        bar.lifts(-5);
        bar.lifts(-1);
        CHECK.due("all but the first", bar.now(3), 254);
        CHECK.due("heights", bar.now(5), 1);
        bar.lifts(-1);
        CHECK.due("all", bar.now(3), 255);
        CHECK.due("heights", bar.now(5), 0);
    }

    private static void needNone() {
        CHECK.sentence("NEED: the fewest STRINGS: none");
        CHECK.due("no limbs", new PuppetBar().now(6), 0);
        CHECK.due("no strings", Check.told(CHAIN).now(6), 0);
        CHECK.due("all end at 0", Check.told("l0 0 1;" + "s0 3 20 1;".repeat(6)).now(6), 0);
        CHECK.due("one ends at 1", Check.told("l0 0 1;s0 3 20 1;s0 3 19 1;").now(6), 2);
    }

    private static void needAll() {
        CHECK.sentence("NEED: the fewest STRINGS by which alone all HEIGHTS are as they are");
        String limbs = "l0 0 1;" + "l0 9 1;".repeat(6);
        PuppetBar bar = Check.told(limbs + "s1 3 5 1;s2 3 5 1;s3 3 5 1;s4 3 5 1;s5 3 5 1;s6 3 5 1;");
        CHECK.due("all six", bar.now(6), 63);
        bar.cuts(2);
        CHECK.due("the other five", bar.now(6), 59);
        // String 5 has all limbs at 11 at least, so string 4, which ends there, is not needed.
        PuppetBar five = Check.told(limbs + "s1 3 5 1;s2 3 6 1;s3 3 7 1;s4 3 8 1;s5 3 9 1;s0 3 0 1;");
        CHECK.due("all but one", five.now(6), 47);
        PuppetBar last = Check.told("l0 0 1;l0 1 1;s1 3 1 1;s1 3 2 1;s0 3 1 1;s1 3 3 1;s0 3 2 1;s0 3 0 1;");
        CHECK.due("one of greater bits is fewer than two", last.now(6), 32);
    }

    private static void needTheLeastBits() {
        CHECK.sentence("NEED: bits, of several sets the least");
        CHECK.due("six alike", Check.told(SIX_STRINGS).now(6), 1);
        String pairs = "l0 0 1;l0 9 1;s1 3 0 1;s0 3 0 1;s0 3 0 1;s1 3 0 1;";
        CHECK.due("the first two", Check.told(pairs).now(6), 3);
        PuppetBar bar = Check.told(pairs);
        bar.cuts(1);
        CHECK.due("5 is less than 12", bar.now(6), 5);
        bar.cuts(0);
        CHECK.due("the last two", bar.now(6), 12);
    }

    private static void needNotCutOnes() {
        CHECK.sentence("NEED: not CUT ones");
        PuppetBar bar = Check.told(SIX_STRINGS);
        for (int s = 0; s < 5; s++) {
            bar.cuts(s);
            CHECK.due("the lowest of the others", bar.now(6), 2 << s);
        }
        bar.cuts(5);
        CHECK.due("none is left", bar.now(6), 0);
    }

    private static void crossedNoneAndAll() {
        CHECK.sentence("CROSSED: twos of STRINGS, of which one has the lower HOLE and the greater LIMB: how many");
        CHECK.due("no strings", Check.told(CHAIN).now(7), 0);
        CHECK.due("one", Check.told("l0 0 1;s0 0 0 1;").now(7), 0);
        String limbs = CHAIN.substring(0, 42);
        CHECK.due("each two of six",
            Check.told(limbs + "s0 6 0 1;s1 5 0 1;s2 4 0 1;s3 3 0 1;s4 2 0 1;s5 1 0 1;").now(7), 15);
        CHECK.due("none of six",
            Check.told(limbs + "s0 1 0 1;s1 2 0 1;s2 3 0 1;s3 4 0 1;s4 5 0 1;s5 6 0 1;").now(7), 0);
        CHECK.due("none of six, whatever their lengths",
            Check.told(limbs + "s0 1 40 9;s1 2 9 1;s2 3 9 1;s3 4 9 1;s4 5 9 1;s5 6 9 1;").now(7), 0);
    }

    private static void crossedLikeOnes() {
        CHECK.sentence("CROSSED: the lower HOLE and the greater LIMB, not like ones");
        CHECK.due("like holes", Check.told("l0 0 1;l0 1 1;s1 3 0 1;s0 3 0 1;").now(7), 0);
        CHECK.due("like limbs", Check.told("l0 0 1;l0 1 1;s1 3 0 1;s1 2 0 1;").now(7), 0);
        CHECK.due("apart by one", Check.told("l0 0 1;l0 1 1;s1 2 0 1;s0 3 0 1;").now(7), 1);
        CHECK.due("apart by one, the other way", Check.told("l0 0 1;l0 1 1;s0 2 0 1;s1 3 0 1;").now(7), 0);
        CHECK.due("all alike", Check.told(SIX_STRINGS).now(7), 0);
    }

    private static void crossedNotCutOnes() {
        CHECK.sentence("CROSSED: STRINGS that are not CUT");
        PuppetBar bar = Check.told("l0 0 1;l0 1 1;l0 1 1;s0 6 0 1;s1 3 0 1;s2 0 0 1;");
        CHECK.due("three", bar.now(7), 3);
        bar.cuts(0);
        CHECK.due("one", bar.now(7), 1);
        bar.cuts(2);
        CHECK.due("none", bar.now(7), 0);
        bar.undo();
        bar.undo();
        CHECK.due("three again", bar.now(7), 3);
    }

    private static void badAheadOfState() {
        CHECK.sentence("Refused, the first of these: BAD, STATE, FULL");
        CHECK.due("lifts(6) at 40", Check.told("u40;").lifts(6), BAD);
        CHECK.due("lifts(-6) at 0", Check.told("u0;").lifts(-6), BAD);
        CHECK.due("lifts(0) at 0", Check.told("u0;").lifts(0), BAD);
        PuppetBar bar = Check.told(SIX_STRINGS);
        CHECK.due("ties what is not cut to no limb", bar.ties(0, 1, 0), BAD);
        CHECK.due("ties what is not cut too short", bar.ties(0, 0, -1), BAD);
        CHECK.due("ties what is not cut too long", bar.ties(0, 0, 41), BAD);
        bar.cuts(0);
        CHECK.due("cuts(6) with one cut", bar.cuts(6), BAD);
        CHECK.due("cuts(32): no bit of another", bar.cuts(32), BAD);
        CHECK.due("hangs(6, 3)", bar.hangs(6, 3), BAD);
        CHECK.due("hangs(0, 7)", bar.hangs(0, 7), BAD);
    }
}
