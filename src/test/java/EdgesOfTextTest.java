/** Each boundary that the document names for the text and its tokens, and of promises 2 to 4. */
public final class EdgesOfTextTest {
    private static final Check CHECK = new Check("EdgesOfTextTest");
    private static final int BAD = PuppetBar.BAD, FULL = PuppetBar.FULL, NONE = PuppetBar.NONE;

    public static void main(String[] args) {
        limbsAtMost();
        parentToldAhead();
        firstLimb();
        bones();
        weights();
        stringsAtMost();
        limbOfAStringToldAhead();
        holes();
        lengths();
        strengths();
        beatsAtMost();
        beatsLiftAndTilt();
        firstLift();
        firstTilt();
        onceAtMostEach();
        bytesAtMost();
        blanks();
        bytesThatBeginAText();
        bytesBehindLetters();
        bytesBehindANumber();
        lettersSideBySide();
        numbersAboveNinetyNine();
        zerosAhead();
        numbersThatWouldWrapAround();
        tokensThatCannotStandThere();
        theFirstFault();
        endsTooEarly();
        greatestAndLeastFault();
        nothingIsLeftOfAnEarlierText();
        itemsAtLeastAndAtMost();
        typing();
        typingWhenFull();
        clearing();
        CHECK.end();
    }

    /** So many limbs, 7 bytes each. */
    private static String limbs(int n) {
        return n == 0 ? "" : "l0 0 1;" + "l0 1 1;".repeat(n - 1);
    }

    private static int count(String text, int what) {
        return Check.told(text).count(what);
    }

    private static void limbsAtMost() {
        CHECK.sentence("LIMBS 0 .. (8 at most); FAULT: a ninth LIMB");
        for (int n = 0; n <= 8; n++) {
            CHECK.reads(limbs(n), n);
            CHECK.due(n + " limbs", count(limbs(n), 0), n);
        }
        CHECK.fault(limbs(8) + "l0 1 1;", 56);
        CHECK.fault(limbs(8) + "  l", 58);
        CHECK.fault(limbs(8) + "lx", 56);
        CHECK.reads(limbs(8) + "s7 0 0 1;", 9);
    }

    private static void parentToldAhead() {
        CHECK.sentence("PARENT (a LIMB told ahead)");
        for (int l = 1; l <= 7; l++) {
            for (int parent = 0; parent < l; parent++) {
                String text = limbs(l) + "l" + parent + " 1 1;";
                CHECK.reads(text, l + 1);
                CHECK.due("parent of limb " + l, Check.told(text).limb(l, 0), parent);
            }
            CHECK.fault(limbs(l) + "l" + l + " 1 1;", 7 * l + 1);
            CHECK.fault(limbs(l) + "l8 1 1;", 7 * l + 1);
            CHECK.fault(limbs(l) + "l-1 1 1;", 7 * l + 1);
        }
    }

    private static void firstLimb() {
        CHECK.sentence("the first one has none; of the first one P and B are 0");
        PuppetBar bar = Check.told("l0 0 1;");
        CHECK.due("parent", bar.limb(0, 0), NONE);
        CHECK.due("bone", bar.limb(0, 1), 0);
        CHECK.fault("l1 0 1;", 1);
        CHECK.fault("l0 1 1;", 3);
        CHECK.fault("l0 9 1;", 3);
        CHECK.fault("b0 0;l0 1 1;", 8);
    }

    private static void bones() {
        CHECK.sentence("BONE to it (1 .. 9)");
        CHECK.fault("l0 0 1;l0 0 1;", 10);
        for (int bone = 1; bone <= 9; bone++) {
            CHECK.due("bone", Check.told("l0 0 1;l0 " + bone + " 1;").limb(1, 1), bone);
        }
        CHECK.fault("l0 0 1;l0 10 1;", 10);
        CHECK.fault(limbs(7) + "l6 0 1;", 52);
        CHECK.fault(limbs(7) + "l6 10 1;", 52);
    }

    private static void weights() {
        CHECK.sentence("WEIGHT (1 .. 9)");
        CHECK.fault("l0 0 0;", 5);
        CHECK.fault("l0 0 10;", 5);
        CHECK.fault("l0 0 1;l0 1 0;", 12);
        CHECK.fault("l0 0 1;l0 1 10;", 12);
        for (int weight = 1; weight <= 9; weight++) {
            CHECK.due("first limb's", Check.told("l0 0 " + weight + ";").limb(0, 2), weight);
            CHECK.due("second limb's", Check.told("l0 0 1;l0 1 " + weight + ";").limb(1, 2), weight);
        }
    }

    private static void stringsAtMost() {
        CHECK.sentence("STRINGS 0 .. (6 at most); FAULT: a seventh STRING");
        for (int n = 0; n <= 6; n++) {
            String text = "l0 0 1;" + "s0 0 0 1;".repeat(n);
            CHECK.reads(text, n + 1);
            CHECK.due(n + " strings", count(text, 1), n);
        }
        CHECK.fault("l0 0 1;" + "s0 0 0 1;".repeat(7), 61);
        CHECK.fault("l0 0 1;" + "s0 0 0 1;".repeat(6) + " s", 62);
        CHECK.reads("l0 0 1;" + "s0 0 0 1;".repeat(6) + "l0 1 1;", 8);
    }

    private static void limbOfAStringToldAhead() {
        CHECK.sentence("s L H N S (the next STRING: a LIMB told ahead)");
        CHECK.fault("s0 0 0 1;", 1);
        for (int n = 1; n <= 8; n++) {
            CHECK.due("on limb 0", Check.told(limbs(n) + "s0 0 0 1;").string(0, 0), 0);
            CHECK.due("on the last", Check.told(limbs(n) + "s" + (n - 1) + " 0 0 1;").string(0, 0), n - 1);
            CHECK.fault(limbs(n) + "s" + n + " 0 0 1;", 7 * n + 1);
        }
        CHECK.fault("l0 0 1;s1 0 0 1;l0 1 1;", 8);
    }

    private static void holes() {
        CHECK.sentence("HOLE (0 .. 6)");
        for (int hole = 0; hole <= 6; hole++) {
            CHECK.due("hole", Check.told("l0 0 1;s0 " + hole + " 0 1;").string(0, 1), hole);
        }
        CHECK.fault("l0 0 1;s0 7 0 1;", 10);
        CHECK.fault("l0 0 1;s0 - 0 1;", 10);
    }

    private static void lengths() {
        CHECK.sentence("LENGTH (0 .. 40)");
        for (int length : new int[] {0, 1, 9, 10, 39, 40}) {
            CHECK.due("length", Check.told("l0 0 1;s0 0 " + length + " 1;").string(0, 2), length);
        }
        CHECK.fault("l0 0 1;s0 0 41 1;", 12);
        CHECK.fault("l0 0 1;s0 0 99 1;", 12);
        CHECK.fault("l0 0 1;s0 0 100 1;", 12);
    }

    private static void strengths() {
        CHECK.sentence("STRENGTH (1 .. 40)");
        CHECK.fault("l0 0 1;s0 0 0 0;", 14);
        for (int strength : new int[] {1, 2, 9, 10, 39, 40}) {
            CHECK.due("strength", Check.told("l0 0 1;s0 0 0 " + strength + ";").string(0, 3), strength);
        }
        CHECK.fault("l0 0 1;s0 0 0 41;", 14);
        CHECK.fault("l0 0 1;s0 0 0 99;", 14);
    }

    private static void beatsAtMost() {
        CHECK.sentence("BEATS 0 .. (7 at most); FAULT: an eighth BEAT");
        for (int n = 0; n <= 7; n++) {
            CHECK.reads("b0 0;".repeat(n), n);
            CHECK.due(n + " beats", count("b0 0;".repeat(n), 2), n);
        }
        CHECK.fault("b0 0;".repeat(8), 35);
        CHECK.fault("b0 0;".repeat(7) + " b", 36);
        CHECK.reads("b0 0;".repeat(7) + "u0;", 8);
    }

    private static void beatsLiftAndTilt() {
        CHECK.sentence("b N T (the next BEAT: LIFT, TILT told as TILT and 3)");
        for (int lift : new int[] {0, 1, 39, 40}) {
            CHECK.due("lift", Check.told("b" + lift + " 0;").beat(0, 0), lift);
        }
        for (int tilt = -3; tilt <= 3; tilt++) {
            CHECK.due("tilt", Check.told("b0 " + (tilt + 3) + ";").beat(0, 1), tilt);
        }
        CHECK.fault("b41 0;", 1);
        CHECK.fault("b0 7;", 3);
        CHECK.fault("b0 -3;", 3);
    }

    private static void firstLift() {
        CHECK.sentence("LIFT (0 .. 40; 20 at first); u N (LIFT)");
        CHECK.due("not told", Check.told("t6;").now(0), 20);
        for (int lift = 0; lift <= 40; lift++) {
            CHECK.due("told", Check.told("u" + lift + ";").now(0), lift);
        }
        CHECK.fault("u41;", 1);
        CHECK.fault("u-1;", 1);
    }

    private static void firstTilt() {
        CHECK.sentence("TILT (-3 .. 3; 0 at first); t N (TILT and 3)");
        CHECK.due("not told", Check.told("u40;").now(1), 0);
        for (int tilt = -3; tilt <= 3; tilt++) {
            CHECK.due("told", Check.told("t" + (tilt + 3) + ";").now(1), tilt);
        }
        CHECK.fault("t7;", 1);
        CHECK.fault("t-3;", 1);
    }

    private static void onceAtMostEach() {
        CHECK.sentence("u, t: once at most each; FAULT: u, t again");
        CHECK.reads("u1;t1;", 2);
        CHECK.reads("t1;u1;", 2);
        CHECK.fault("u1;u2;", 3);
        CHECK.fault("u1;u1;", 3);
        CHECK.fault("u1; u", 4);
        CHECK.fault("t1;t2;", 3);
        CHECK.fault("t1; t", 4);
        CHECK.fault("u1;t1;u1;", 6);
        CHECK.fault("t1;u1;t1;", 6);
        CHECK.fault("u20;" + limbs(8) + "u20;", 60);
        CHECK.fault("t3;" + limbs(8) + "t3;", 59);
    }

    private static void bytesAtMost() {
        CHECK.sentence("They are a text (170 bytes at most)");
        PuppetBar bar = new PuppetBar();
        Check.type(bar, " ".repeat(166) + "u39");
        CHECK.due("the last byte", bar.type(';'), 170);
        CHECK.due("one too many", bar.type(';'), FULL);
        CHECK.due("bytes", bar.count(5), 170);
        CHECK.due("items", bar.puppet(), 1);
        CHECK.due("lift", bar.now(0), 39);
        CHECK.reads(Twins.ALL_TOLD + " ".repeat(170 - Twins.ALL_TOLD.length()), 23);
        CHECK.reads(" ".repeat(169), 0);
        CHECK.reads(" ".repeat(170), 0);
    }

    private static void blanks() {
        CHECK.sentence("blanks (32) between TOKENS");
        CHECK.reads("   l   0   0   1   ;   u   1   ;   ", 2);
        CHECK.reads("l 0 0 1 ; u 1 ;", 2);
        CHECK.reads("l0 0 1;u1;", 2);
        CHECK.fault("u1 0;", 3);
        CHECK.fault("l00 1;", 1);
        CHECK.fault("l0 01;", 3);
        for (int no : new int[] {0, 9, 10, 11, 12, 13, 31, 33, 127, 128, 133, 160, 255}) {
            CHECK.fault("u" + (char) no + "1;", 1);
            CHECK.fault("u1;" + (char) no, 3);
        }
    }

    private static boolean isIn(int c, int from, int to) {
        return c >= from && c <= to;
    }

    private static void bytesThatBeginAText() {
        CHECK.sentence("letters that begin no ITEM; a byte that begins no TOKEN");
        for (int c = 0; c <= 255; c++) {
            if (c == ' ') {
                CHECK.reads(" ", 0);
            } else {
                boolean begins = "lsbut".indexOf(c) >= 0;
                CHECK.fault("" + (char) c, begins ? 1 : 0);
                CHECK.fault("u1;" + (char) c, c == 'u' ? 3 : begins ? 4 : 3);
            }
        }
    }

    private static void bytesBehindLetters() {
        CHECK.sentence("TOKENS are letters a .. z side by side");
        for (int c = 0; c <= 255; c++) {
            boolean isOneToken = isIn(c, 'a', 'z');
            boolean endsTooEarly = c == ' ' || isIn(c, '0', '9');
            CHECK.fault("u" + (char) c, isOneToken ? 0 : endsTooEarly ? 2 : 1);
        }
    }

    private static void bytesBehindANumber() {
        CHECK.sentence("TOKENS are .. NUMBERS and ;");
        for (int c = 0; c <= 255; c++) {
            boolean endsTooEarly = c == ' ' || isIn(c, '0', '9');
            if (c == ';') {
                CHECK.reads("u2;", 1);
            } else {
                CHECK.fault("u2" + (char) c, endsTooEarly ? 3 : 2);
            }
        }
        for (int d = 0; d <= 9; d++) {
            PuppetBar bar = Check.told("b" + d + " 0;b3" + d + " 0;");
            CHECK.due("each digit alone", bar.beat(0, 0), d);
            CHECK.due("each digit behind another", bar.beat(1, 0), 30 + d);
        }
    }

    private static void lettersSideBySide() {
        CHECK.sentence("TOKENS are letters a .. z side by side; letters that begin no ITEM");
        for (String letters : new String[] {"ll", "lu", "ul", "tu", "bb", "ss", "la", "az", "za", "limb", "string"}) {
            CHECK.fault(letters + "0 0 1;", 0);
            CHECK.fault("u1;  " + letters + ";", 5);
        }
        CHECK.fault("u" + "u".repeat(169), 0);
        CHECK.fault("l l0 0 1;", 2);
        CHECK.fault("l0 l", 3);
        CHECK.fault("l0l", 2);
    }

    private static void numbersAboveNinetyNine() {
        CHECK.sentence("a NUMBER above 99, that TOKEN's");
        CHECK.fault("u99;", 1);
        CHECK.fault("u100;", 1);
        CHECK.fault("u 999;", 2);
        CHECK.fault("u20 100;", 4);
        CHECK.fault("u20;100", 4);
        CHECK.fault("u100", 1);
        CHECK.fault("l0 0 100", 5);
    }

    private static void zerosAhead() {
        CHECK.sentence("a NUMBER with a 0 ahead of others, that TOKEN's");
        CHECK.reads("u0;", 1);
        CHECK.fault("u00;", 1);
        CHECK.fault("u01;", 1);
        CHECK.fault("u020;", 1);
        CHECK.fault("u000", 1);
        CHECK.fault("t03;", 1);
        CHECK.fault("b0 03;", 3);
        CHECK.fault("u1;l0 0 01;", 8);
        CHECK.fault("u" + "0".repeat(169), 1);
        CHECK.fault("u" + "0".repeat(168) + "7", 1);
        CHECK.reads("u10;", 1);
        CHECK.reads("u40;", 1);
    }

    private static void numbersThatWouldWrapAround() {
        CHECK.sentence("a NUMBER above 99: however many digits it has");
        CHECK.fault("u256;", 1);
        CHECK.fault("u65536;", 1);
        CHECK.fault("u4294967296;", 1);
        CHECK.fault("u4294967316;", 1);
        CHECK.fault("u18446744073709551636;", 1);
        CHECK.fault("l0 0 1;l0 4294967297 1;", 10);
        CHECK.fault("l0 0 1;s4294967296 0 0 1;", 8);
        CHECK.fault("u1" + "0".repeat(168), 1);
        CHECK.fault("u" + "9".repeat(169), 1);
    }

    private static void tokensThatCannotStandThere() {
        CHECK.sentence("FAULT: the first TOKEN that can't stand there");
        CHECK.fault(";", 0);
        CHECK.fault("0", 0);
        CHECK.fault("u1;;", 3);
        CHECK.fault("u;", 1);
        CHECK.fault("u u;", 2);
        CHECK.fault("u1 1;", 3);
        CHECK.fault("t1 1;", 3);
        CHECK.fault("b1;", 2);
        CHECK.fault("b1 1 1;", 5);
        CHECK.fault("l0 0;", 4);
        CHECK.fault("l0 0 1 1;", 7);
        CHECK.fault("l0 0 1;s0 0 0;", 13);
        CHECK.fault("l0 0 1;s0 0 0 1 1;", 16);
        CHECK.fault("l0 0 1 u", 7);
    }

    private static void theFirstFault() {
        CHECK.sentence("FAULT: the place of the first byte of the first TOKEN");
        CHECK.fault("u41;t7;", 1);
        CHECK.fault("u40;t7;u41;", 5);
        CHECK.fault("x$", 0);
        CHECK.fault("$x", 0);
        CHECK.fault("u1 100 $", 3);
        CHECK.fault("l0 0 0 $", 5);
        CHECK.fault("l0 0 1 001", 7);
        CHECK.fault("limb 100 $", 0);
    }

    private static void endsTooEarly() {
        CHECK.sentence("the text's length, if it ends too early");
        String text = "l0 0 5; l0 3 2 ;s1 3 40 12;b10 3;  u 18 ;t4;";
        for (int length = 0; length <= text.length(); length++) {
            String begun = text.substring(0, length);
            if (begun.isBlank() || begun.trim().endsWith(";")) {
                CHECK.reads(begun, (int) begun.chars().filter(c -> c == ';').count());
            } else {
                CHECK.fault(begun, length);
                CHECK.fault(begun + "   ", length + 3);
            }
        }
    }

    private static void greatestAndLeastFault() {
        CHECK.sentence("-10 less FAULT");
        CHECK.reads("x", -10);
        CHECK.reads("u" + " ".repeat(169), -180);
        CHECK.reads(" ".repeat(169) + "u", -180);
        CHECK.reads(" ".repeat(169) + "x", -179);
        CHECK.reads("u1;" + " ".repeat(166) + ";", -179);
    }

    private static void nothingIsLeftOfAnEarlierText() {
        CHECK.sentence("(Read anew: as told)");
        PuppetBar bar = Check.told(Twins.ALL_TOLD);
        CHECK.due("all told again", Check.read(bar, Twins.ALL_TOLD), 23);
        PuppetBar faulty = new PuppetBar();
        CHECK.due("fault", Check.read(faulty, limbs(8) + "u1;t1;x"), -72);
        CHECK.due("fault", Check.read(faulty, limbs(2) + "s1 0 0 1;b0 0;u1;t1;x"), -44);
        CHECK.due("all told behind a fault", Check.read(faulty, Twins.ALL_TOLD), 23);
        CHECK.due("fault", Check.read(faulty, "s0 0 0 1;"), -11);
        PuppetBar less = Check.told(Twins.ALL_TOLD);
        CHECK.due("less told", Check.read(less, "l0 0 1;"), 1);
        int[] due = {1, 0, 0, 0, 0, 0};
        for (int what = 0; what <= 5; what++) {
            CHECK.due("count " + what, less.count(what), due[what]);
        }
        CHECK.due("lift at first", less.now(0), 20);
        CHECK.due("tilt at first", less.now(1), 0);
    }

    private static void itemsAtLeastAndAtMost() {
        CHECK.sentence("THE TEXT tells all, and is empty then: how many ITEMS");
        PuppetBar bar = new PuppetBar();
        CHECK.due("none", bar.puppet(), 0);
        CHECK.due("all that may be", Check.read(bar, Twins.ALL_TOLD), 23);
        CHECK.due("bytes", bar.count(5), 0);
        CHECK.due("nothing to clear", bar.clear(), 0);
        CHECK.due("none again", bar.puppet(), 0);
        CHECK.due("no limbs then", bar.count(0), 0);
        CHECK.due("no strings then", bar.count(1), 0);
        CHECK.due("no beats then", bar.count(2), 0);
    }

    private static void typing() {
        CHECK.sentence("A byte (0 .. 255) comes to THE TEXT: how many it has. BAD");
        PuppetBar low = new PuppetBar();
        PuppetBar high = new PuppetBar();
        for (int i = 0; i < 128; i++) {
            CHECK.due("type(" + i + ")", low.type(i), i + 1);
            CHECK.due("type(" + (i + 128) + ")", high.type(i + 128), i + 1);
        }
        for (int c : new int[] {-1, 256, -256, 'u' + 256, 'u' - 256, 'u' + 65536, Integer.MIN_VALUE,
            Integer.MAX_VALUE}) {
            CHECK.due("type(" + c + ")", low.type(c), BAD);
            CHECK.due("bytes", low.count(5), 128);
        }
    }

    private static void typingWhenFull() {
        CHECK.sentence("type: BAD; FULL");
        PuppetBar bar = new PuppetBar();
        for (int i = 1; i <= 170; i++) {
            CHECK.due("type", bar.type(i == 170 ? 'x' : ' '), i);
        }
        CHECK.due("full", bar.type(' '), FULL);
        CHECK.due("full", bar.type(0), FULL);
        CHECK.due("full", bar.type(255), FULL);
        CHECK.due("BAD comes first", bar.type(-1), BAD);
        CHECK.due("BAD comes first", bar.type(256), BAD);
        CHECK.due("the text is as it was", bar.puppet(), -179);
        CHECK.due("clear", bar.clear(), 170);
        CHECK.due("room again", bar.type(' '), 1);
    }

    private static void clearing() {
        CHECK.sentence("THE TEXT is empty: how many bytes it had");
        PuppetBar bar = new PuppetBar();
        CHECK.due("none", bar.clear(), 0);
        bar.type(0);
        CHECK.due("one", bar.clear(), 1);
        CHECK.due("none", bar.clear(), 0);
        Check.type(bar, "x".repeat(169));
        CHECK.due("one less than all", bar.clear(), 169);
        Check.type(bar, "x".repeat(170));
        CHECK.due("all", bar.clear(), 170);
        CHECK.due("bytes", bar.count(5), 0);
        CHECK.due("nothing is read", bar.puppet(), 0);
        CHECK.due("the next is the first", bar.type('u'), 1);
        Twins.unchanged(CHECK, "clear() of an empty text", b -> Check.read(b, "l0 0 1;"), PuppetBar::clear, 0);
    }
}
