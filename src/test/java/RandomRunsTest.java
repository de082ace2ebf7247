import java.util.Random;

/** Promises 1 to 33: random runs of calls, of the same numbers each time, against the literal model. */
public final class RandomRunsTest {
    private static final int RUNS = 1500;
    /** An object is good for 512 calls; one round makes 12 at most, or types a text while there is room for it. */
    private static final int CALLS = 500;
    private static final int REACH = 16;

    private final Random random;
    private final Pair pair = new Pair();

    private RandomRunsTest(int seed) {
        random = new Random(seed);
    }

    public static void main(String[] args) {
        Check check = new Check("RandomRunsTest");
        for (int seed = 0; seed < RUNS; seed++) {
            RandomRunsTest run = new RandomRunsTest(seed);
            if (!run.goesWell()) {
                check.due("run " + seed + " " + run.pair.told(), 0, 1);
                break;
            }
            check.due("run " + seed, 1, 1);
        }
        check.end();
    }

    private boolean goesWell() {
        if (!pair.types(puppetText()) || !pair.same(2, 0, 0, 0)) {
            return false;
        }
        while (pair.calls() < CALLS) {
            int which = random.nextInt(1000);
            boolean well;
            if (which < 4 && pair.calls() < 300) {
                String text = random.nextInt(3) == 0 ? spoilt(puppetText()) : puppetText();
                well = pair.types(text) && pair.same(2, 0, 0, 0);
            } else if (which < 40) {
                well = seesWhatCouldBe();
            } else {
                int call = which % Pair.NAMES.length;
                well = pair.same(call, call == REACH ? groundSet() : number(), number(), number());
            }
            if (!well) {
                return false;
            }
        }
        return true;
    }

    /** Mostly a set that some place of the bar has on the ground; else reach() would nearly always find none. */
    private int groundSet() {
        int limbs = pair.model.count(0);
        if (random.nextInt(4) == 0) {
            return random.nextInt(2 + (1 << limbs)) - 1;
        }
        return pair.model.groundAt(random.nextInt(41), random.nextInt(7) - 3);
    }

    private int number() {
        int which = random.nextInt(40);
        if (which == 0) {
            return random.nextInt();
        }
        if (which == 1) {
            return random.nextBoolean() ? Integer.MIN_VALUE : Integer.MAX_VALUE;
        }
        return which < 20 ? random.nextInt(7) : which < 30 ? random.nextInt(13) - 4 : random.nextInt(60) - 5;
    }

    /** Heights as they would be with one string cut or hung elsewhere, so that there is something to suspect. */
    private boolean seesWhatCouldBe() {
        int strings = pair.model.count(1);
        int limbs = pair.model.count(0);
        if (strings == 0 || limbs == 0) {
            return true;
        }
        int s = random.nextInt(strings);
        if (!pair.same(23, 0, 0, 0) || !pair.same(28, 0, 0, 0)) {
            return false;
        }
        boolean well = random.nextBoolean() ? pair.same(9, s, 0, 0) : pair.same(11, s, random.nextInt(7), 0);
        int l = random.nextInt(limbs);
        int k = random.nextInt(limbs);
        int heightOfL = pair.model.limb(l, 3);
        int heightOfK = pair.model.limb(k, 3);
        return well && pair.same(29, 0, 0, 0) && sees(l, heightOfL, s) && sees(k, heightOfK, s);
    }

    private boolean sees(int l, int height, int s) {
        return pair.same(22, l, height, 0) && pair.same(24, 0, 0, 0) && pair.same(25, s, 0, 0)
            && pair.same(26, 0, 0, 0);
    }

    private String gap() {
        return random.nextInt(12) == 0 ? "  " : "";
    }

    private String puppetText() {
        StringBuilder text = new StringBuilder();
        int limbs = 0;
        int strings = 0;
        int beats = 0;
        boolean lift = false;
        boolean tilt = false;
        int bone = 1 + random.nextInt(9);
        int slack = 5 + random.nextInt(36);
        for (int i = 0; i < 24; i++) {
            String item = "";
            int which = random.nextInt(22);
            if (limbs == 0 || which < 9 && limbs < 8) {
                item = "l" + (limbs == 0 ? "0 0" : random.nextInt(limbs) + " " + (1 + random.nextInt(bone))) + " "
                    + (1 + random.nextInt(9));
                limbs++;
            } else if (which < 15 && strings < 6) {
                item = "s" + gap() + random.nextInt(limbs) + " " + random.nextInt(7) + " " + gap()
                    + random.nextInt(slack) + " " + (1 + random.nextInt(random.nextBoolean() ? 40 : 9));
                strings++;
            } else if (which < 20 && beats < 7) {
                item = gap() + "b" + random.nextInt(41) + " " + random.nextInt(7);
                beats++;
            } else if (which == 20 && !lift) {
                item = "u" + random.nextInt(41);
                lift = true;
            } else if (which == 21 && !tilt) {
                item = "t" + random.nextInt(7);
                tilt = true;
            }
            if (!item.isEmpty() && text.length() + item.length() + 1 <= 170) {
                text.append(item).append(gap()).append(';');
            }
        }
        return text.toString();
    }

    private String spoilt(String text) {
        StringBuilder s = new StringBuilder(text);
        String signs = "0123456789 ;lsbutxA-z/:`{" + (char) 0 + (char) 255;
        int times = 1 + random.nextInt(2);
        for (int i = 0; i < times && s.length() > 0; i++) {
            int at = random.nextInt(s.length());
            char c = signs.charAt(random.nextInt(signs.length()));
            switch (random.nextInt(4)) {
                case 0: s.setCharAt(at, c); break;
                case 1: s.insert(at, c); break;
                case 2: s.deleteCharAt(at); break;
                default: s.setLength(at); break;
            }
        }
        return s.toString();
    }
}
