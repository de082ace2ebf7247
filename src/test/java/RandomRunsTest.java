import java.util.ArrayList;
import java.util.List;
import java.util.Random;

/** Promises 1 to 33: random runs of calls, of the same numbers each time, against the literal model. */
public final class RandomRunsTest {
    private static final int RUNS = 1500;
    private static final int CALLS = 512;
    private static final int REACH = 16;
    private static final String[] NAMES = {"type", "clear", "puppet", "limb", "string", "beat", "far", "lifts",
        "tilts", "cuts", "ties", "hangs", "holds", "beats", "undo", "now", "reach", "fell", "path", "nods", "play",
        "odds", "saw", "forget", "suspects", "holes", "look", "mark", "keep", "back", "count", "trace"};

    private final Random random;
    private final PuppetBar bar = new PuppetBar();
    private final Model model = new Model();
    private final List<String> told = new ArrayList<>();
    private int calls;

    private RandomRunsTest(int seed) {
        random = new Random(seed);
    }

    public static void main(String[] args) {
        Check check = new Check("RandomRunsTest");
        for (int seed = 0; seed < RUNS; seed++) {
            RandomRunsTest run = new RandomRunsTest(seed);
            if (!run.goesWell()) {
                check.due("run " + seed + " " + run.told, 0, 1);
                break;
            }
            check.due("run " + seed, 1, 1);
        }
        check.end();
    }

    private boolean goesWell() {
        if (!types(puppetText()) || !same(2, 0, 0, 0)) {
            return false;
        }
        while (calls < CALLS) {
            int which = random.nextInt(1000);
            boolean well;
            if (which < 4 && calls < 300) {
                well = types(random.nextInt(3) == 0 ? spoilt(puppetText()) : puppetText()) && same(2, 0, 0, 0);
            } else if (which < 40) {
                well = seesWhatCouldBe();
            } else {
                int call = which % NAMES.length;
                well = same(call, call == REACH ? groundSet() : number(), number(), number());
            }
            if (!well) {
                return false;
            }
        }
        return true;
    }

    /** Mostly a set that some place of the bar has on the ground; else reach() would nearly always find none. */
    private int groundSet() {
        int limbs = bar.count(0);
        if (random.nextInt(4) == 0) {
            return random.nextInt(2 + (1 << limbs)) - 1;
        }
        return model.groundAt(random.nextInt(41), random.nextInt(7) - 3);
    }

    private int number() {
        int which = random.nextInt(40);
        if (which == 0) {
            return random.nextInt();
        }
        if (which == 1) {
            return random.nextBoolean() ? Integer.MIN_VALUE : Integer.MAX_VALUE;
        }
        return which < 20 ? random.nextInt(7) : which < 30 ? random.nextInt(13) - 4 : random.nextInt(60) - 5;
    }

    /** Heights as they would be with one string cut or hung elsewhere, so that there is something to suspect. */
    private boolean seesWhatCouldBe() {
        int strings = bar.count(1);
        int limbs = bar.count(0);
        if (strings == 0 || limbs == 0) {
            return true;
        }
        int s = random.nextInt(strings);
        if (!same(23, 0, 0, 0) || !same(28, 0, 0, 0)) {
            return false;
        }
        boolean well = random.nextBoolean() ? same(9, s, 0, 0) : same(11, s, random.nextInt(7), 0);
        int l = random.nextInt(limbs);
        int k = random.nextInt(limbs);
        int heightOfL = bar.limb(l, 3);
        int heightOfK = bar.limb(k, 3);
        calls += 4;
        return well && same(29, 0, 0, 0) && same(22, l, heightOfL, 0) && same(24, 0, 0, 0) && same(25, s, 0, 0)
            && same(26, 0, 0, 0) && same(22, k, heightOfK, 0) && same(24, 0, 0, 0) && same(25, s, 0, 0)
            && same(26, 0, 0, 0);
    }

    private boolean types(String text) {
        if (!same(1, 0, 0, 0)) {
            return false;
        }
        for (int i = 0; i < text.length(); i++) {
            if (!same(0, text.charAt(i), 0, 0)) {
                return false;
            }
        }
        return true;
    }

    private String gap() {
        return random.nextInt(12) == 0 ? "  " : "";
    }

    private String puppetText() {
        StringBuilder text = new StringBuilder();
        int limbs = 0;
        int strings = 0;
        int beats = 0;
        boolean lift = false;
        boolean tilt = false;
        int bone = 1 + random.nextInt(9);
        int slack = 5 + random.nextInt(36);
        for (int i = 0; i < 24; i++) {
            String item = "";
            int which = random.nextInt(22);
            if (limbs == 0 || which < 9 && limbs < 8) {
                item = "l" + (limbs == 0 ? "0 0" : random.nextInt(limbs) + " " + (1 + random.nextInt(bone))) + " "
                    + (1 + random.nextInt(9));
                limbs++;
            } else if (which < 15 && strings < 6) {
                item = "s" + gap() + random.nextInt(limbs) + " " + random.nextInt(7) + " " + gap()
                    + random.nextInt(slack) + " " + (1 + random.nextInt(random.nextBoolean() ? 40 : 9));
                strings++;
            } else if (which < 20 && beats < 7) {
                item = gap() + "b" + random.nextInt(41) + " " + random.nextInt(7);
                beats++;
            } else if (which == 20 && !lift) {
                item = "u" + random.nextInt(41);
                lift = true;
            } else if (which == 21 && !tilt) {
                item = "t" + random.nextInt(7);
                tilt = true;
            }
            if (!item.isEmpty() && text.length() + item.length() + 1 <= 170) {
                text.append(item).append(gap()).append(';');
            }
        }
        return text.toString();
    }

    private String spoilt(String text) {
        StringBuilder s = new StringBuilder(text);
        String signs = "0123456789 ;lsbutxA-z/:`{" + (char) 0 + (char) 255;
        int times = 1 + random.nextInt(2);
        for (int i = 0; i < times && s.length() > 0; i++) {
            int at = random.nextInt(s.length());
            char c = signs.charAt(random.nextInt(signs.length()));
            switch (random.nextInt(4)) {
                case 0: s.setCharAt(at, c); break;
                case 1: s.insert(at, c); break;
                case 2: s.deleteCharAt(at); break;
                default: s.setLength(at); break;
            }
        }
        return s.toString();
    }

    private boolean same(int call, int a, int b, int c) {
        calls++;
        long got = ofBar(call, a, b, c);
        long due = ofModel(call, a, b, c);
        told.add(NAMES[call] + "(" + a + " " + b + " " + c + ")=" + got + (got == due ? "" : " DUE " + due));
        return got == due;
    }

    private long ofBar(int call, int a, int b, int c) {
        switch (call) {
            case 0: return bar.type(a);
            case 1: return bar.clear();
            case 2: return bar.puppet();
            case 3: return bar.limb(a, b);
            case 4: return bar.string(a, b);
            case 5: return bar.beat(a, b);
            case 6: return bar.far(a, b);
            case 7: return bar.lifts(a);
            case 8: return bar.tilts(a);
            case 9: return bar.cuts(a);
            case 10: return bar.ties(a, b, c);
            case 11: return bar.hangs(a, b);
            case 12: return bar.holds();
            case 13: return bar.beats(a);
            case 14: return bar.undo();
            case 15: return bar.now(a);
            case 16: return bar.reach(a, b);
            case 17: return bar.fell(a);
            case 18: return bar.path(a, b);
            case 19: return bar.nods(a);
            case 20: return bar.play(a);
            case 21: return bar.odds(a, b, c);
            case 22: return bar.saw(a, b);
            case 23: return bar.forget();
            case 24: return bar.suspects();
            case 25: return bar.holes(a);
            case 26: return bar.look();
            case 27: return bar.mark(a, b);
            case 28: return bar.keep(a);
            case 29: return bar.back(a);
            case 30: return bar.count(a);
            default: return bar.trace();
        }
    }

    private long ofModel(int call, int a, int b, int c) {
        switch (call) {
            case 0: return model.type(a);
            case 1: return model.clear();
            case 2: return model.puppet();
            case 3: return model.limb(a, b);
            case 4: return model.string(a, b);
            case 5: return model.beat(a, b);
            case 6: return model.far(a, b);
            case 7: return model.lifts(a);
            case 8: return model.tilts(a);
            case 9: return model.cuts(a);
            case 10: return model.ties(a, b, c);
            case 11: return model.hangs(a, b);
            case 12: return model.holds();
            case 13: return model.beats(a);
            case 14: return model.undo();
            case 15: return model.now(a);
            case 16: return model.reach(a, b);
            case 17: return model.fell(a);
            case 18: return model.path(a, b);
            case 19: return model.nods(a);
            case 20: return model.play(a);
            case 21: return model.odds(a, b, c);
            case 22: return model.saw(a, b);
            case 23: return model.forget();
            case 24: return model.suspects();
            case 25: return model.holes(a);
            case 26: return model.look();
            case 27: return model.mark(a, b);
            case 28: return model.keep(a);
            case 29: return model.back(a);
            case 30: return model.count(a);
            default: return model.trace();
        }
    }
}
