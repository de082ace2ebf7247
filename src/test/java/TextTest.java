/** Promises 2 to 4: the text and how it is read. */
public final class TextTest {
    private static final Check CHECK = new Check("TextTest");

    public static void main(String[] args) {
        typing();
        clearing();
        itemsOfGoodTexts();
        faultsOfTokens();
        faultsOfItems();
        faultsOfNumbers();
        faultsOfTooMany();
        textsThatEndTooEarly();
        aFaultChangesNothing();
        readAnew();
        CHECK.end();
    }

    private static void typing() {
        PuppetBar bar = new PuppetBar();
        CHECK.due("type(-1)", bar.type(-1), PuppetBar.BAD);
        CHECK.due("type(256)", bar.type(256), PuppetBar.BAD);
        CHECK.due("type(MIN)", bar.type(Integer.MIN_VALUE), PuppetBar.BAD);
        CHECK.due("bytes", bar.count(5), 0);
        CHECK.due("type(0)", bar.type(0), 1);
        CHECK.due("type(255)", bar.type(255), 2);
        for (int i = 3; i <= 170; i++) {
            CHECK.due("type a blank", bar.type(' '), i);
        }
        CHECK.due("a byte too many", bar.type(' '), PuppetBar.FULL);
        CHECK.due("BAD ahead of FULL", bar.type(256), PuppetBar.BAD);
        CHECK.due("still full", bar.count(5), 170);
    }

    private static void clearing() {
        PuppetBar bar = Check.told("l0 0 1;");
        CHECK.due("clear of nothing", bar.clear(), 0);
        Check.type(bar, "l0 ");
        CHECK.due("clear", bar.clear(), 3);
        CHECK.due("clear again", bar.clear(), 0);
        CHECK.due("the puppet stays", bar.count(0), 1);
        CHECK.due("from the beginning", bar.type('u'), 1);
        for (int i = 0; i < 180; i++) {
            bar.type(' ');
        }
        CHECK.due("clear of a full one", bar.clear(), 170);
        CHECK.due("room again", bar.type(' '), 1);
    }

    private static void itemsOfGoodTexts() {
        CHECK.reads("", 0);
        CHECK.reads("    ", 0);
        CHECK.reads("u0;", 1);
        CHECK.reads(" u 40 ; t 6 ; ", 2);
        CHECK.reads("b40 6;b0 0;", 2);
        CHECK.reads("l 0 0 9;l0 9 1;s1 6 40 40;s0 0 0 1;b1 1;u1;t1;", 7);
        CHECK.reads("t6;u7;b9 3;l0 0 1;s0 0 0 1;l0 1 1;", 6);
        CHECK.reads("l0 0 1;l0 1 1;l1 1 1;l2 1 1;l3 1 1;l4 1 1;l5 1 1;l6 1 1;", 8);
    }

    private static void faultsOfTokens() {
        CHECK.fault("L0 0 1;", 0);
        CHECK.fault("  \t", 2);
        CHECK.fault("l0\t0 1;", 2);
        CHECK.fault("l0 0 1-;", 6);
        CHECK.fault("l0 0 1;" + (char) 0, 7);
        CHECK.fault("l0 0 1;" + (char) 255, 7);
        CHECK.fault("l0 0 /;", 5);
        CHECK.fault("l0 0 :;", 5);
        CHECK.fault("`0;", 0);
        CHECK.fault("{0;", 0);
        CHECK.fault("l00 0 1;", 1);
        CHECK.fault("l0 00 1;", 3);
        CHECK.fault("l0 0 01;", 5);
        CHECK.fault("l0 0 100;", 5);
        CHECK.fault("l0 0 1;l0 4294967297 1;", 10);
        CHECK.fault("l" + "9".repeat(169), 1);
        CHECK.fault("l" + "0".repeat(169), 1);
        CHECK.fault("u020;", 1);
    }

    private static void faultsOfItems() {
        CHECK.fault(";", 0);
        CHECK.fault("5", 0);
        CHECK.fault("x0;", 0);
        CHECK.fault("  x", 2);
        CHECK.fault("ll0 0 1;", 0);
        CHECK.fault("limb", 0);
        CHECK.fault("la0 0 1;", 0);
        CHECK.fault("lz0 0 1;", 0);
        CHECK.fault("l;", 1);
        CHECK.fault("l0;", 2);
        CHECK.fault("l0 0;", 4);
        CHECK.fault("l0 0 1 1;", 7);
        CHECK.fault("l0 0 1 l", 7);
        CHECK.fault("l0 0 l;", 5);
        CHECK.fault("l u;", 2);
        CHECK.fault("l0 0 1;;", 7);
        CHECK.fault("u20 3;", 4);
        CHECK.fault("t;", 1);
        CHECK.fault("b0;", 2);
        CHECK.fault("l0 0 1;s0 0 0;", 13);
        CHECK.fault("l0 0 1;s0 0 0 1 1;", 16);
    }

    private static void faultsOfNumbers() {
        CHECK.fault("l1 0 1;", 1);
        CHECK.fault("l0 1 1;", 3);
        CHECK.fault("l0 0 0;", 5);
        CHECK.fault("l0 0 10;", 5);
        CHECK.fault("l0 0 1;l1 1 1;", 8);
        CHECK.fault("l0 0 1;l0 0 1;", 10);
        CHECK.fault("l0 0 1;l0 10 1;", 10);
        CHECK.fault("l0 0 1;l0 1 0;", 12);
        CHECK.fault("l0 0 1;l0 1 10;", 12);
        CHECK.fault("s0 0 0 1;", 1);
        CHECK.fault("l0 0 1;s1 0 0 1;", 8);
        CHECK.fault("l0 0 1;s0 7 0 1;", 10);
        CHECK.fault("l0 0 1;s0 0 41 1;", 12);
        CHECK.fault("l0 0 1;s0 0 0 0;", 14);
        CHECK.fault("l0 0 1;s0 0 0 41;", 14);
        CHECK.fault("b41 0;", 1);
        CHECK.fault("b0 7;", 3);
        CHECK.fault("u41;", 1);
        CHECK.fault("t7;", 1);
    }

    private static void faultsOfTooMany() {
        CHECK.fault("u0;u0;", 3);
        CHECK.fault("t0; t0;", 4);
        CHECK.fault("l0 0 1;l0 1 1;l0 1 1;l0 1 1;l0 1 1;l0 1 1;l0 1 1;l0 1 1;l", 56);
        CHECK.fault("l0 0 1;" + "s0 0 0 1;".repeat(6) + "s0 0 0 1;", 61);
        CHECK.fault("b0 0;".repeat(7) + "b0 0;", 35);
        CHECK.reads("l0 0 1;" + "s0 0 0 1;".repeat(6) + "b0 0;".repeat(7), 14);
    }

    private static void textsThatEndTooEarly() {
        CHECK.fault("l", 1);
        CHECK.fault("l ", 2);
        CHECK.fault("l0", 2);
        CHECK.fault("l0 0 1", 6);
        CHECK.fault("l0 0 1   ", 9);
        CHECK.fault("u", 1);
        CHECK.fault("b4", 2);
        CHECK.fault("l0 0 1;s0 0 0 1", 15);
    }

    private static void aFaultChangesNothing() {
        PuppetBar bar = Check.told("l0 0 3;l0 2 4;s1 5 6 7;b3 4;u9;t5;");
        bar.cuts(0);
        bar.keep(1);
        bar.saw(1, 4);
        Check.type(bar, "l0 0 1;u3;t3;b1 1;s0 0 0 0;");
        CHECK.due("fault", bar.puppet(), -35);
        CHECK.due("fault again", bar.puppet(), -35);
        CHECK.due("limbs", bar.count(0), 2);
        CHECK.due("weight", bar.limb(0, 2), 3);
        CHECK.due("bone", bar.limb(1, 1), 2);
        CHECK.due("strings", bar.count(1), 1);
        CHECK.due("hole", bar.string(0, 1), 5);
        CHECK.due("beats", bar.count(2), 1);
        CHECK.due("beat", bar.beat(0, 0), 3);
        CHECK.due("seen", bar.count(3), 1);
        CHECK.due("to undo", bar.count(4), 1);
        CHECK.due("bytes", bar.count(5), 27);
        CHECK.due("lift", bar.now(0), 9);
        CHECK.due("tilt", bar.now(1), 2);
        CHECK.due("cut", bar.now(2), 1);
        CHECK.due("image", bar.back(1), 9);
    }

    private static void readAnew() {
        PuppetBar bar = Check.told("l0 0 3;l0 2 4;s1 5 6 7;b3 4;u9;t5;");
        bar.mark(0, 0);
        bar.cuts(0);
        bar.keep(0);
        bar.keep(1);
        bar.saw(1, 4);
        CHECK.due("read anew", Check.read(bar, "l0 0 1;s0 3 7 1;"), 2);
        CHECK.due("limbs", bar.count(0), 1);
        CHECK.due("strings", bar.count(1), 1);
        CHECK.due("beats", bar.count(2), 0);
        CHECK.due("seen", bar.count(3), 0);
        CHECK.due("to undo", bar.count(4), 0);
        CHECK.due("undo", bar.undo(), PuppetBar.STATE);
        CHECK.due("bytes", bar.count(5), 0);
        CHECK.due("image 0", bar.back(0), PuppetBar.STATE);
        CHECK.due("image 1", bar.back(1), PuppetBar.STATE);
        CHECK.due("lift", bar.now(0), 20);
        CHECK.due("tilt", bar.now(1), 0);
        CHECK.due("cut", bar.now(2), 0);
        CHECK.due("height", bar.limb(0, 3), 13);
        CHECK.due("trace stays", bar.trace(), 1);
        CHECK.due("an empty text", bar.puppet(), 0);
        CHECK.due("no limbs", bar.count(0), 0);
        CHECK.due("no strings", bar.count(1), 0);
    }
}
