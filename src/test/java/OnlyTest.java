/**
 * What a call changes is what its promise says, and nothing else: behind each call all others answer as a twin does
 * that was not asked it, but for what it is there to change.
 */
public final class OnlyTest {
    private static final Check CHECK = new Check("OnlyTest");
    private static final String LIMBS = "l0 0 5;l0 3 2;l0 4 3;l1 2 1;l2 5 4;";
    private static final String TEXT = LIMBS + "s0 3 8 9;s1 1 5 3;s4 6 7 9;s3 0 9 2;b9 3;b30 1;b20 6;u18;t4;";

    public static void main(String[] args) {
        deedsAndUndo();
        texts();
        seen();
        marks();
        images();
        backIsToAllOfThat();
        questions();
        readAnew();
        apart();
        CHECK.end();
    }

    /** Some of all: six steps, so that none is lost by one more, string 1 cut, both images, things seen, a text. */
    private static void settled(PuppetBar bar) {
        Check.read(bar, TEXT);
        bar.lifts(2);
        bar.cuts(3);
        bar.keep(0);
        bar.ties(3, 4, 7);
        bar.tilts(-2);
        bar.hangs(2, 1);
        bar.cuts(1);
        bar.keep(1);
        bar.mark(4, 2);
        bar.saw(0, 12);
        bar.saw(4, 3);
        bar.type('u');
        bar.type('7');
    }

    private static void undone(String name, Twins.Call deed, long due) {
        Twins.unchanged(CHECK, name + " and undo()", OnlyTest::settled, bar -> {
            long answer = deed.on(bar);
            CHECK.due("a step more", bar.count(4), 7);
            CHECK.due("undo", bar.undo(), 6);
            return answer;
        }, due);
    }

    private static void deedsAndUndo() {
        CHECK.sentence("UNDONE: all is as ahead of it (SEEN, THE TEXT, THE TRACE and IMAGES were not changed)");
        undone("lifts(-5)", bar -> bar.lifts(-5), 15);
        undone("tilts(3)", bar -> bar.tilts(3), -2);
        undone("cuts(0)", bar -> bar.cuts(0), 0);
        undone("ties(1, 2, 40)", bar -> bar.ties(1, 2, 40), 0);
        undone("hangs(1, 6)", bar -> bar.hangs(1, 6), 1);
        undone("holds()", PuppetBar::holds, 1);
        undone("beats(0)", bar -> bar.beats(0), 3);
    }

    private static void texts() {
        CHECK.sentence("A byte comes to THE TEXT; THE TEXT is empty: nothing else");
        Twins.changesOnly(CHECK, "type", OnlyTest::settled, bar -> bar.type('1'), "PUPPET count 5", "TEXT");
        Twins.changesOnly(CHECK, "clear", OnlyTest::settled, PuppetBar::clear, "PUPPET count 5", "TEXT");
    }

    private static void seen() {
        CHECK.sentence("SEEN; Nothing was SEEN: nothing else");
        Twins.changesOnly(CHECK, "saw", OnlyTest::settled, bar -> bar.saw(3, 9), "PUPPET count 3", "SEEN");
        Twins.changesOnly(CHECK, "forget", OnlyTest::settled, PuppetBar::forget, "PUPPET count 3", "SEEN");
    }

    private static void marks() {
        CHECK.sentence("MARK: numbers come to THE TRACE: nothing else");
        for (int kind = 0; kind <= 5; kind++) {
            int k = kind;
            Twins.changesOnly(CHECK, "mark " + k, OnlyTest::settled, bar -> bar.mark(k, 4), "PUPPET trace");
        }
    }

    private static void images() {
        CHECK.sentence("An IMAGE is kept: that one, and nothing else");
        Twins.changesOnly(CHECK, "keep 0", OnlyTest::settled, bar -> bar.keep(0), "IMAGE_0");
        Twins.Deeds moved = bar -> {
            settled(bar);
            bar.lifts(1);
        };
        Twins.changesOnly(CHECK, "keep 1", moved, bar -> bar.keep(1), "IMAGE_1");
    }

    private static void backIsToAllOfThat() {
        CHECK.sentence("All of that becomes as an IMAGE has it (not SEEN, THE TEXT, THE TRACE, the other IMAGE)");
        Twins.unchanged(CHECK, "all deeds and back(1)", OnlyTest::settled, bar -> {
            bar.lifts(-4);
            bar.tilts(1);
            bar.ties(1, 2, 3);
            bar.cuts(0);
            bar.hangs(3, 5);
            bar.holds();
            bar.beats(1);
            return bar.back(1);
        }, 20);
        Twins.unchanged(CHECK, "all undone and back(1)", OnlyTest::settled, bar -> {
            for (int i = 0; i < 6; i++) {
                bar.undo();
            }
            CHECK.due("lift", bar.now(0), 18);
            return bar.back(1);
        }, 20);
        Twins.changesOnly(CHECK, "back(0)", OnlyTest::settled, bar -> bar.back(0), "PUPPET count 4", "PUPPET now",
            "PUPPET limb", "PUPPET string", "COULD_BE", "SEEN", "MARKS", "STEPS");
    }

    private static void question(String name, Twins.Call asked) {
        PuppetBar bar = new PuppetBar();
        settled(bar);
        Twins.unchanged(CHECK, name, OnlyTest::settled, asked, asked.on(bar));
    }

    private static void questions() {
        CHECK.sentence("a call that only asks changes nothing");
        for (int what = 0; what <= 7; what++) {
            int w = what;
            question("limb(4, " + w + ")", bar -> bar.limb(4, w));
            question("string(3, " + w + ")", bar -> bar.string(3, w));
            question("beat(2, " + w + ")", bar -> bar.beat(2, w));
            question("now(" + w + ")", bar -> bar.now(w));
            question("count(" + w + ")", bar -> bar.count(w));
            question("play(" + (w - 1) + ")", bar -> bar.play(w - 1));
        }
        for (int what = 0; what <= 2; what++) {
            int w = what;
            question("reach(31, " + w + ")", bar -> bar.reach(31, w));
            question("reach(0, " + w + ")", bar -> bar.reach(0, w));
            question("path(3, " + w + ")", bar -> bar.path(3, w));
            question("odds(1, 3, " + w + ")", bar -> bar.odds(1, 3, w));
        }
        for (int number = 0; number <= 4; number++) {
            int n = number;
            question("far(1, " + n + ")", bar -> bar.far(1, n));
            question("fell(" + n + ")", bar -> bar.fell(n));
            question("nods(" + n + ")", bar -> bar.nods(n));
            question("holes(" + n + ")", bar -> bar.holes(n));
        }
        question("suspects()", PuppetBar::suspects);
        question("look()", PuppetBar::look);
        question("trace()", PuppetBar::trace);
    }

    private static void readAnew() {
        CHECK.sentence("(Read anew: as told, nothing CUT, SEEN or to be UNDONE, IMAGES are gone.)");
        String[] texts = {"", "b40 6;", "l0 0 9;s0 6 3 2;b0 0;", "l0 0 1;l0 9 2;s1 0 40 1;u40;t6;", TEXT};
        for (String text : texts) {
            Twins.compare(CHECK, "'" + text + "' told behind another", bar -> {
                settled(bar);
                CHECK.isTrue("it has no fault", Check.read(bar, text) >= 0);
            }, bar -> Check.read(bar, text), "PUPPET trace");
        }
    }

    private static void apart() {
        CHECK.sentence("A new object: as told, whatever another one was asked");
        PuppetBar one = new PuppetBar();
        settled(one);
        Twins.compare(CHECK, "a new one beside another", bar -> settled(one), bar -> { });
        CHECK.due("the other is as it was left", one.now(0), 20);
        PuppetBar left = new PuppetBar();
        PuppetBar right = new PuppetBar();
        for (int i = 0; i < TEXT.length(); i++) {
            CHECK.due("typed to one", left.type(TEXT.charAt(i)), i + 1);
            CHECK.due("typed to the other", right.type("u39;t0;".charAt(i % 7)), i + 1);
        }
        CHECK.due("one", left.puppet(), 14);
        CHECK.due("the other: u again", right.puppet(), -17);
        CHECK.due("lift of one", left.lifts(5), 23);
        CHECK.due("lift of the other", right.now(0), 20);
    }
}
