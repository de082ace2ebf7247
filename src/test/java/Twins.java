import java.util.ArrayList;
import java.util.List;

/**
 * Two new objects with a past each, and whether both answer alike: all that either answers is written into a log, view
 * by view, and the logs are compared. Each view has twins of its own, for some views change things themselves, and an
 * object is good for 512 calls.
 */
final class Twins {
    /** Eight limbs, six strings, seven beats, lift and tilt: all that a text can tell, in 157 bytes. */
    static final String ALL_TOLD = "l0 0 5;l0 3 2;l0 4 3;l1 2 1;l2 5 4;l3 1 9;l4 9 6;l0 1 7;"
        + "s0 3 8 9;s1 1 5 3;s4 6 7 9;s3 0 9 2;s7 2 6 5;s6 5 4 8;"
        + "b9 3;b30 1;b20 6;b12 0;b0 0;b40 6;b25 2;u18;t4;";

    interface Deeds {
        void on(PuppetBar bar);
    }

    interface Call {
        long on(PuppetBar bar);
    }

    private interface Answers {
        void of(PuppetBar bar, List<String> log);
    }

    /** Each line of a log begins with its view's name: "STEPS undo = 3". */
    enum View {
        PUPPET(Twins::puppet), COULD_BE(Twins::couldBe), SEEN(Twins::seen), MARKS(Twins::marks), STEPS(Twins::steps),
        IMAGE_0((bar, log) -> image(bar, log, 0)), IMAGE_1((bar, log) -> image(bar, log, 1)), TEXT(Twins::text);

        private final Answers answers;

        View(Answers answers) {
            this.answers = answers;
        }

        private List<String> of(PuppetBar bar) {
            List<String> lines = new ArrayList<>();
            answers.of(bar, lines);
            lines.replaceAll(line -> this + " " + line);
            return lines;
        }
    }

    private Twins() { }

    /** All that is told and done at once: more steps than are known, both images, things seen, a text begun. */
    static void busy(PuppetBar bar) {
        Check.read(bar, ALL_TOLD);
        bar.lifts(2);
        bar.tilts(-1);
        bar.hangs(2, 1);
        bar.cuts(3);
        bar.ties(3, 5, 7);
        bar.keep(0);
        bar.beats(2);
        bar.holds();
        bar.lifts(-3);
        bar.keep(1);
        bar.tilts(2);
        bar.lifts(1);
        bar.hangs(1, 6);
        bar.lifts(1);
        bar.mark(3, 1);
        bar.saw(0, 5);
        bar.saw(6, 0);
        bar.type('u');
        bar.type('7');
    }

    /** The call answers what is due, and all other calls answer as if it had not been. */
    static void unchanged(Check check, String name, Deeds past, Call call, long due) {
        Deeds asked = bar -> {
            past.on(bar);
            check.due(name, call.on(bar), due);
        };
        compare(check, "behind " + name + " all is as it was", asked, past);
    }

    /** As above, but that lines which begin so do change; and each of these beginnings has a line that does. */
    static void changesOnly(Check check, String name, Deeds past, Deeds call, String... begins) {
        Deeds asked = bar -> {
            past.on(bar);
            call.on(bar);
        };
        compare(check, "behind " + name + " all else is as it was", asked, past, begins);
        for (String begin : begins) {
            boolean changed = false;
            for (View view : View.values()) {
                changed |= !only(begin, look(view, asked)).equals(only(begin, look(view, past)));
            }
            check.isTrue("behind " + name + " " + begin + " is another", changed);
        }
    }

    /** Both answer alike, but for lines that begin so. */
    static void compare(Check check, String name, Deeds one, Deeds other, String... but) {
        for (View view : View.values()) {
            List<String> got = look(view, one);
            List<String> due = look(view, other);
            for (String begin : but) {
                got.removeAll(only(begin, got));
                due.removeAll(only(begin, due));
            }
            String first = "";
            for (int i = 0; i < due.size() && first.isEmpty(); i++) {
                String now = i < got.size() ? got.get(i) : "nothing";
                first = now.equals(due.get(i)) ? "" : "; " + now + ", due is " + due.get(i);
            }
            check.isTrue(name + first, got.equals(due));
        }
    }

    private static List<String> look(View view, Deeds past) {
        PuppetBar bar = new PuppetBar();
        past.on(bar);
        return view.of(bar);
    }

    private static List<String> only(String begin, List<String> lines) {
        List<String> found = new ArrayList<>(lines);
        found.removeIf(line -> !line.startsWith(begin));
        return found;
    }

    private static void add(List<String> log, String call, long answer) {
        log.add(call + " = " + answer);
    }

    private static void puppet(PuppetBar bar, List<String> log) {
        for (int what = 0; what <= 5; what++) {
            add(log, "count " + what, bar.count(what));
        }
        add(log, "trace", bar.trace());
        for (int what = 0; what <= 7; what++) {
            add(log, "now " + what, bar.now(what));
        }
        for (int l = 0, limbs = bar.count(0); l < limbs; l++) {
            for (int what = 0; what <= 4; what++) {
                add(log, "limb " + l + " " + what, bar.limb(l, what));
            }
            for (int k = 0; k < l; k++) {
                add(log, "far " + l + " " + k, bar.far(l, k));
            }
        }
        for (int s = 0, strings = bar.count(1); s < strings; s++) {
            for (int what = 0; what <= 7; what++) {
                add(log, "string " + s + " " + what, bar.string(s, what));
            }
        }
        for (int b = 0, beats = bar.count(2); b < beats; b++) {
            add(log, "lift of beat " + b, bar.beat(b, 0));
            add(log, "tilt of beat " + b, bar.beat(b, 1));
        }
    }

    private static void couldBe(PuppetBar bar, List<String> log) {
        for (int i = -1; i <= 6; i++) {
            add(log, "play " + i, bar.play(i));
        }
        for (int l = 0, limbs = bar.count(0); l < limbs; l++) {
            add(log, "fell " + l, bar.fell(l));
            add(log, "nods " + l, bar.nods(l));
            add(log, "odds " + l, bar.odds(l, 3, 0));
            for (int b = 0, beats = bar.count(2); b < beats; b++) {
                add(log, "path " + l + " " + b, bar.path(l, b));
            }
        }
        int[] sets = {0, 1, (1 << bar.count(0)) - 1, bar.now(3)};
        for (int set : sets) {
            for (int what = 0; what <= 2; what++) {
                add(log, "reach " + set + " " + what, bar.reach(set, what));
            }
        }
    }

    /** What was seen can't be asked for; but at each tilt other strings and holes fit it. */
    private static void seen(PuppetBar bar, List<String> log) {
        for (int tilt = -3; tilt <= 3; tilt++) {
            add(log, "tilts " + tilt, bar.tilts(tilt));
            add(log, "suspects", bar.suspects());
            add(log, "look", bar.look());
            for (int s = 0, strings = bar.count(1); s < strings; s++) {
                add(log, "holes " + s, bar.holes(s));
            }
        }
        add(log, "forget", bar.forget());
    }

    private static void marks(PuppetBar bar, List<String> log) {
        for (int l = 0, limbs = bar.count(0); l < limbs; l++) {
            for (int kind = 0; kind <= 5; kind++) {
                add(log, "mark " + kind + " " + l, bar.mark(kind, l));
            }
        }
    }

    private static void pose(PuppetBar bar, List<String> log) {
        for (int what = 0; what <= 2; what++) {
            add(log, "now " + what, bar.now(what));
        }
        for (int s = 0, strings = bar.count(1); s < strings; s++) {
            for (int what = 0; what <= 2; what++) {
                add(log, "string " + s + " " + what, bar.string(s, what));
            }
        }
    }

    private static void steps(PuppetBar bar, List<String> log) {
        for (int i = 0; i <= 10; i++) {
            pose(bar, log);
            add(log, "undo", bar.undo());
        }
    }

    private static void image(PuppetBar bar, List<String> log, int image) {
        add(log, "back " + image, bar.back(image));
        steps(bar, log);
    }

    /** Reads the text as it is, then with an end, so that what was typed is seen even if it ends too early. */
    private static void text(PuppetBar bar, List<String> log) {
        add(log, "puppet", bar.puppet());
        add(log, "type", bar.type(';'));
        add(log, "puppet", bar.puppet());
        pose(bar, log);
        add(log, "limbs", bar.count(0));
        add(log, "clear", bar.clear());
    }
}
