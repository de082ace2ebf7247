import java.util.ArrayList;
import java.util.List;

/** An object and the literal model of it, asked the same; calls by their numbers, as NAMES has them. */
final class Pair {
    static final String[] NAMES = {"type", "clear", "puppet", "limb", "string", "beat", "far", "lifts",
        "tilts", "cuts", "ties", "hangs", "holds", "beats", "undo", "now", "reach", "fell", "path", "nods", "play",
        "odds", "saw", "forget", "suspects", "holes", "look", "mark", "keep", "back", "count", "trace"};

    final PuppetBar bar = new PuppetBar();
    final Model model = new Model();
    private final List<String> told = new ArrayList<>();

    /** What was asked up to now, and answered. */
    String told() {
        return told.toString();
    }

    int calls() {
        return told.size();
    }

    /** Whether both answer alike. */
    boolean same(int call, int a, int b, int c) {
        long got = ofBar(call, a, b, c);
        long due = ofModel(call, a, b, c);
        told.add(NAMES[call] + "(" + a + " " + b + " " + c + ")=" + got + (got == due ? "" : " DUE " + due));
        return got == due;
    }

    boolean types(String text) {
        boolean well = same(1, 0, 0, 0);
        for (int i = 0; i < text.length() && well; i++) {
            well = same(0, text.charAt(i), 0, 0);
        }
        return well;
    }

    long ofBar(int call, int a, int b, int c) {
        switch (call) {
            case 0: return bar.type(a);
            case 1: return bar.clear();
            case 2: return bar.puppet();
            case 3: return bar.limb(a, b);
            case 4: return bar.string(a, b);
            case 5: return bar.beat(a, b);
            case 6: return bar.far(a, b);
            case 7: return bar.lifts(a);
            case 8: return bar.tilts(a);
            case 9: return bar.cuts(a);
            case 10: return bar.ties(a, b, c);
            case 11: return bar.hangs(a, b);
            case 12: return bar.holds();
            case 13: return bar.beats(a);
            case 14: return bar.undo();
            case 15: return bar.now(a);
            case 16: return bar.reach(a, b);
            case 17: return bar.fell(a);
            case 18: return bar.path(a, b);
            case 19: return bar.nods(a);
            case 20: return bar.play(a);
            case 21: return bar.odds(a, b, c);
            case 22: return bar.saw(a, b);
            case 23: return bar.forget();
            case 24: return bar.suspects();
            case 25: return bar.holes(a);
            case 26: return bar.look();
            case 27: return bar.mark(a, b);
            case 28: return bar.keep(a);
            case 29: return bar.back(a);
            case 30: return bar.count(a);
            default: return bar.trace();
        }
    }

    private long ofModel(int call, int a, int b, int c) {
        switch (call) {
            case 0: return model.type(a);
            case 1: return model.clear();
            case 2: return model.puppet();
            case 3: return model.limb(a, b);
            case 4: return model.string(a, b);
            case 5: return model.beat(a, b);
            case 6: return model.far(a, b);
            case 7: return model.lifts(a);
            case 8: return model.tilts(a);
            case 9: return model.cuts(a);
            case 10: return model.ties(a, b, c);
            case 11: return model.hangs(a, b);
            case 12: return model.holds();
            case 13: return model.beats(a);
            case 14: return model.undo();
            case 15: return model.now(a);
            case 16: return model.reach(a, b);
            case 17: return model.fell(a);
            case 18: return model.path(a, b);
            case 19: return model.nods(a);
            case 20: return model.play(a);
            case 21: return model.odds(a, b, c);
            case 22: return model.saw(a, b);
            case 23: return model.forget();
            case 24: return model.suspects();
            case 25: return model.holes(a);
            case 26: return model.look();
            case 27: return model.mark(a, b);
            case 28: return model.keep(a);
            case 29: return model.back(a);
            case 30: return model.count(a);
            default: return model.trace();
        }
    }
}
