/** Each boundary that the document names for what was seen, and of promises 24 to 28. */
public final class EdgesOfSeenTest {
    private static final Check CHECK = new Check("EdgesOfSeenTest");
    private static final int BAD = PuppetBar.BAD, STATE = PuppetBar.STATE, FULL = PuppetBar.FULL,
        NONE = PuppetBar.NONE;
    private static final int LEAST = Integer.MIN_VALUE, MOST = Integer.MAX_VALUE;
    /** Eight limbs in a chain of bones of 1. */
    private static final String CHAIN = "l0 0 1;l0 1 1;l1 1 1;l2 1 1;l3 1 1;l4 1 1;l5 1 1;l6 1 1;";
    private static final String SIX_STRINGS = "l0 0 1;" + "s0 3 0 1;".repeat(6);

    public static void main(String[] args) {
        seenAtMost();
        seenOfLimbsThereAre();
        seenHeights();
        seenBadAheadOfFull();
        seenTheSameAgain();
        seenStays();
        forgotten();
        suspectsWhenNothingWasSeen();
        suspectsWhenAllIsCut();
        suspectsAsItIs();
        suspectsByEachSeen();
        suspectsAtTheGreatestHeight();
        holesOfStringsThereAre();
        holesWhenNothingWasSeen();
        holesFirstAndLast();
        holesNoneAndAsItIs();
        holesOfACutOne();
        lookWithoutSuspects();
        lookWithoutLimbs();
        lookWithOneSuspect();
        lookOfLikeOnes();
        lookTheLast();
        lookAtOneThatWasSeen();
        CHECK.end();
    }

    private static void seenAtMost() {
        CHECK.sentence("SEEN (6 at most): how much there is. FULL");
        PuppetBar bar = Check.told("l0 0 1;s0 3 13 1;");
        for (int n = 1; n <= 6; n++) {
            CHECK.due("saw", bar.saw(0, 7), n);
            CHECK.due("seen", bar.count(3), n);
        }
        CHECK.due("a seventh", bar.saw(0, 8), FULL);
        CHECK.due("seen", bar.count(3), 6);
        CHECK.due("the seventh counts for nothing", bar.suspects(), 64);
        CHECK.due("forget", bar.forget(), 6);
        CHECK.due("room again", bar.saw(0, 8), 1);
        CHECK.due("now it counts", bar.suspects(), 0);
    }

    private static void seenOfLimbsThereAre() {
        CHECK.sentence("saw: BAD (there is no such thing)");
        for (int n = 0; n <= 8; n++) {
            PuppetBar bar = Check.told(CHAIN.substring(0, 7 * n));
            for (int l : new int[] {-1, n, LEAST, MOST}) {
                CHECK.due("saw(" + l + ", 0) of " + n, bar.saw(l, 0), BAD);
            }
            CHECK.due("seen", bar.count(3), 0);
            if (n > 0) {
                CHECK.due("the first", bar.saw(0, 0), 1);
                CHECK.due("the last", bar.saw(n - 1, 0), 2);
            }
        }
    }

    private static void seenHeights() {
        CHECK.sentence("SEEN: a LIMB was at a HEIGHT (0 .. 49). BAD");
        PuppetBar bar = Check.told("l0 0 1;");
        for (int height : new int[] {-1, 50, LEAST, MOST}) {
            CHECK.due("saw(0, " + height + ")", bar.saw(0, height), BAD);
        }
        CHECK.due("seen", bar.count(3), 0);
        CHECK.due("the lowest", bar.saw(0, 0), 1);
        CHECK.due("the next", bar.saw(0, 1), 2);
        CHECK.due("the last but one", bar.saw(0, 48), 3);
        CHECK.due("the highest", bar.saw(0, 49), 4);
    }

    private static void seenBadAheadOfFull() {
        CHECK.sentence("saw: BAD; FULL");
        PuppetBar bar = Check.told("l0 0 1;");
        for (int i = 0; i < 6; i++) {
            bar.saw(0, 0);
        }
        CHECK.due("full", bar.saw(0, 0), FULL);
        CHECK.due("no such limb", bar.saw(1, 0), BAD);
        CHECK.due("no such limb", bar.saw(-1, 0), BAD);
        CHECK.due("too high", bar.saw(0, 50), BAD);
        CHECK.due("too low", bar.saw(0, -1), BAD);
        CHECK.due("seen", bar.count(3), 6);
    }

    private static void seenTheSameAgain() {
        CHECK.sentence("SEEN: how much there is (the same, again, too)");
        PuppetBar bar = Check.told("l0 0 1;s0 3 13 1;");
        CHECK.due("once", bar.saw(0, 7), 1);
        CHECK.due("twice", bar.saw(0, 7), 2);
        CHECK.due("so as it is", bar.suspects(), 64);
        CHECK.due("another height", bar.saw(0, 0), 3);
        CHECK.due("not both", bar.suspects(), 0);
    }

    private static void seenStays() {
        CHECK.sentence("IMAGES keep NOW; nothing else. UNDONE: a LIFTED .. BEAT");
        PuppetBar bar = Check.told("l0 0 1;s0 3 13 1;");
        bar.keep(0);
        bar.lifts(1);
        bar.saw(0, 7);
        CHECK.due("not so now", bar.suspects(), 0);
        bar.undo();
        CHECK.due("seen behind undo", bar.count(3), 1);
        CHECK.due("so then", bar.suspects(), 64);
        bar.back(0);
        CHECK.due("seen behind back", bar.count(3), 1);
        Check.read(bar, "l0 0 1;");
        CHECK.due("seen, read anew", bar.count(3), 0);
        CHECK.due("suspects", bar.suspects(), 64);
    }

    private static void forgotten() {
        CHECK.sentence("Nothing was SEEN: how much was");
        PuppetBar bar = Check.told("l0 0 1;s0 3 13 1;");
        for (int n = 0; n <= 6; n++) {
            for (int i = 0; i < n; i++) {
                bar.saw(0, 9);
            }
            CHECK.due("forget", bar.forget(), n);
            CHECK.due("seen", bar.count(3), 0);
            CHECK.due("suspects", bar.suspects(), 65);
        }
        CHECK.due("nothing to forget", bar.forget(), 0);
        Twins.unchanged(CHECK, "forget of nothing", b -> Check.read(b, "l0 0 1;"), PuppetBar::forget, 0);
    }

    private static void suspectsWhenNothingWasSeen() {
        CHECK.sentence("SUSPECTS: all that was SEEN so: nothing was");
        CHECK.due("no limbs", new PuppetBar().suspects(), 64);
        for (int n = 0; n <= 6; n++) {
            CHECK.due(n + " strings", Check.told(SIX_STRINGS.substring(0, 7 + 9 * n)).suspects(), 64 + (1 << n) - 1);
        }
    }

    private static void suspectsWhenAllIsCut() {
        CHECK.sentence("SUSPECTS: STRINGS that are not CUT");
        PuppetBar bar = Check.told(SIX_STRINGS);
        int left = 127;
        for (int s = 0; s < 6; s++) {
            bar.cuts(s);
            left -= 1 << s;
            CHECK.due("the others", bar.suspects(), left);
        }
        bar.saw(0, 0);
        CHECK.due("it is so", bar.suspects(), 64);
        bar.saw(0, 1);
        CHECK.due("it is not so", bar.suspects(), 0);
    }

    private static void suspectsAsItIs() {
        CHECK.sentence("SUSPECTS: bit 6: all is so as it is");
        PuppetBar bar = Check.told("l0 0 1;s0 3 10 1;s0 3 11 1;");
        bar.saw(0, 10);
        CHECK.due("as it is, or the longer one cut", bar.suspects(), 66);
        bar.forget();
        bar.saw(0, 9);
        CHECK.due("the shorter one cut", bar.suspects(), 1);
        bar.forget();
        bar.saw(0, 0);
        CHECK.due("not one alone", bar.suspects(), 0);
        bar.cuts(0);
        CHECK.due("the other, too", bar.suspects(), 2);
    }

    private static void suspectsByEachSeen() {
        CHECK.sentence("SUSPECTS: each of which makes all that was SEEN so (6 at most)");
        for (int odd = 0; odd < 6; odd++) {
            PuppetBar bar = Check.told("l0 0 1;s0 3 10 1;");
            for (int i = 0; i < 6; i++) {
                bar.saw(0, i == odd ? 11 : 10);
            }
            CHECK.due("all but number " + odd, bar.suspects(), 0);
            CHECK.due("holes", bar.holes(0), 0);
        }
        PuppetBar all = Check.told("l0 0 1;s0 3 10 1;");
        for (int i = 0; i < 6; i++) {
            all.saw(0, 10);
        }
        CHECK.due("all six", all.suspects(), 64);
    }

    private static void suspectsAtTheGreatestHeight() {
        CHECK.sentence("SEEN: at a HEIGHT (0 .. 49): the last one, too");
        PuppetBar bar = Check.told("l0 0 1;s0 6 0 1;u40;t6;");
        CHECK.due("height", bar.limb(0, 3), 49);
        bar.saw(0, 49);
        CHECK.due("as it is", bar.suspects(), 64);
        CHECK.due("in hole 6 alone", bar.holes(0), 64);
        bar.forget();
        bar.saw(0, 0);
        CHECK.due("cut", bar.suspects(), 1);
    }

    private static void holesOfStringsThereAre() {
        CHECK.sentence("holes: BAD (there is no such thing)");
        for (int n = 0; n <= 6; n++) {
            PuppetBar bar = Check.told(SIX_STRINGS.substring(0, 7 + 9 * n));
            for (int s : new int[] {-1, n, LEAST, MOST, 32}) {
                CHECK.due("holes(" + s + ") of " + n, bar.holes(s), BAD);
            }
            if (n > 0) {
                CHECK.due("the first", bar.holes(0), 127);
                CHECK.due("the last", bar.holes(n - 1), 127);
            }
        }
    }

    private static void holesWhenNothingWasSeen() {
        CHECK.sentence("HOLES: those in which all that was SEEN is so: nothing was");
        CHECK.due("all seven", Check.told("l0 0 1;s0 3 13 1;t0;").holes(0), 127);
        PuppetBar level = Check.told("l0 0 1;s0 3 13 1;");
        level.saw(0, 7);
        CHECK.due("all seven are alike at tilt 0", level.holes(0), 127);
    }

    private static void holesFirstAndLast() {
        CHECK.sentence("HOLES of a STRING: those (bits): 0 .. 6");
        for (int hole = 0; hole <= 6; hole++) {
            PuppetBar up = Check.told("l0 0 1;s0 3 10 1;t6;");
            up.saw(0, 10 + 3 * (hole - 3));
            CHECK.due("hole " + hole, up.holes(0), 1 << hole);
            PuppetBar down = Check.told("l0 0 1;s0 3 10 1;t0;");
            down.saw(0, 10 + 3 * (hole - 3));
            CHECK.due("the other way", down.holes(0), 1 << 6 - hole);
        }
        PuppetBar ground = Check.told("l0 0 1;s0 5 20 1;t6;");
        ground.saw(0, 0);
        CHECK.due("on the ground: ends at 0 or below", ground.holes(0), 15);
    }

    private static void holesNoneAndAsItIs() {
        CHECK.sentence("HOLES: in which, all else as it is, all that was SEEN is so");
        PuppetBar bar = Check.told("l0 0 1;l0 2 1;s0 3 10 1;s1 3 9 1;t4;");
        // String 1 ends at 11 + (hole - 3); limb 0 is at 10 at least, limb 1 at 8 at least.
        bar.saw(0, 10);
        CHECK.due("up to hole 4", bar.holes(1), 31);
        CHECK.due("string 0 where it is, alone", bar.holes(0), 8);
        bar.saw(1, 11);
        CHECK.due("where it is, too", bar.holes(1), 8);
        bar.saw(1, 12);
        CHECK.due("none", bar.holes(1), 0);
        CHECK.due("none", bar.holes(0), 0);
        CHECK.due("where it is stays", bar.string(1, 1), 3);
    }

    private static void holesOfACutOne() {
        CHECK.sentence("holes: STATE: it is CUT");
        PuppetBar bar = Check.told(SIX_STRINGS);
        for (int s = 0; s < 6; s++) {
            CHECK.due("not cut", bar.holes(s), 127);
            bar.cuts(s);
            CHECK.due("cut", bar.holes(s), STATE);
        }
        CHECK.due("BAD ahead of STATE", bar.holes(6), BAD);
        CHECK.due("BAD ahead of STATE", bar.holes(-1), BAD);
        bar.ties(5, 0, 0);
        CHECK.due("tied", bar.holes(5), 127);
    }

    private static void lookWithoutSuspects() {
        CHECK.sentence("LOOK: NONE (no SUSPECTS)");
        PuppetBar bar = Check.told(CHAIN + "s0 3 0 1;");
        CHECK.due("nothing was seen", bar.look(), 0);
        bar.saw(0, 19);
        CHECK.due("no suspects", bar.suspects(), 0);
        CHECK.due("none", bar.look(), NONE);
        bar.forget();
        CHECK.due("forgotten", bar.look(), 0);
    }

    private static void lookWithoutLimbs() {
        CHECK.sentence("LOOK: NONE (no LIMBS)");
        CHECK.due("a new one", new PuppetBar().look(), NONE);
        CHECK.due("beats alone", Check.told("b0 0;u1;t1;").look(), NONE);
        CHECK.due("a limb without strings", Check.told("l0 0 1;").look(), 0);
        CHECK.due("a limb with all seven suspects alike", Check.told(SIX_STRINGS).look(), 0);
    }

    private static void lookWithOneSuspect() {
        CHECK.sentence("LOOK: SUSPECTS (bit 6, too)");
        PuppetBar bar = Check.told(CHAIN + "s0 3 0 1;");
        bar.cuts(0);
        CHECK.due("bit 6 alone", bar.suspects(), 64);
        CHECK.due("the lowest limb", bar.look(), 0);
        PuppetBar one = Check.told(CHAIN + "s0 3 0 1;");
        one.saw(7, 0);
        CHECK.due("string 0 alone", one.suspects(), 1);
        CHECK.due("the lowest limb", one.look(), 0);
        // Limb 0 is at 1 with string 0 and at 0 without; limb 1 is on the ground either way.
        PuppetBar two = Check.told("l0 0 1;l0 1 1;s0 3 19 1;");
        two.saw(1, 0);
        CHECK.due("string 0 and bit 6", two.suspects(), 65);
        CHECK.due("limb 0 parts them", two.look(), 0);
        PuppetBar other = Check.told("l0 0 1;l0 1 1;s1 3 19 1;");
        CHECK.due("limb 1 parts them", other.look(), 1);
    }

    private static void lookOfLikeOnes() {
        CHECK.sentence("LOOK: of like ones the lowest");
        PuppetBar bar = Check.told("l0 0 1;" + "l0 9 1;".repeat(6) + "s1 3 5 1;s2 3 5 1;s3 3 5 1;s4 3 5 1;s5 3 5 1;");
        CHECK.due("suspects", bar.suspects(), 95);
        for (int l = 1; l <= 5; l++) {
            CHECK.due("limbs " + l + " to 5 are alike", bar.look(), l);
            bar.saw(l, 15);
        }
        CHECK.due("one suspect", bar.suspects(), 64);
        CHECK.due("all limbs are alike", bar.look(), 0);
    }

    private static void lookTheLast() {
        CHECK.sentence("LOOK: at which the greatest number of SUSPECTS by which it is as high is least");
        // Two strings alike on limb 0, and one that ends too low to bear a limb: no cut alone is seen.
        PuppetBar bar = Check.told(CHAIN + "s0 3 0 1;s0 3 0 1;s7 3 12 1;");
        CHECK.due("suspects", bar.suspects(), 71);
        CHECK.due("each limb leaves all four", bar.look(), 0);
        PuppetBar last = Check.told(CHAIN + "s0 3 7 1;s0 3 7 1;s7 3 13 1;");
        CHECK.due("suspects", last.suspects(), 71);
        CHECK.due("limb 7 is at 7 or, without string 2, at 6", last.look(), 7);
        // Limb 0 is at 20 or, without string 0, at 19; limb 1 is at 11 by strings 0 and 2.
        PuppetBar first = Check.told("l0 0 1;l0 9 1;s0 3 0 1;s0 3 1 1;s1 3 9 1;");
        CHECK.due("suspects", first.suspects(), 71);
        CHECK.due("limb 0 leaves three, limb 1 four", first.look(), 0);
    }

    private static void lookAtOneThatWasSeen() {
        CHECK.sentence("LOOK: of like ones the lowest (SEEN ones, too)");
        PuppetBar bar = Check.told("l0 0 1;l0 1 1;s0 3 0 1;");
        bar.saw(0, 20);
        CHECK.due("as it is, alone", bar.suspects(), 64);
        CHECK.due("the lowest limb, though it was seen", bar.look(), 0);
        PuppetBar one = Check.told("l0 0 1;s0 3 20 1;");
        one.saw(0, 0);
        CHECK.due("string 0, and as it is", one.suspects(), 65);
        CHECK.due("the only limb, though it was seen", one.look(), 0);
    }
}
