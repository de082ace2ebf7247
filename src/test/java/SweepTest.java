/**
 * Promises 2 to 33, and rule 7 of the language: each call with numbers on both sides of each bound, and far beyond,
 * on puppets from none to all that may be told, against the literal model; and that no call ever throws.
 */
public final class SweepTest {
    private static final Check CHECK = new Check("SweepTest");
    private static final int[] MANY = {Integer.MIN_VALUE, Integer.MIN_VALUE + 1, -1000001, -1000000, -999999, -257,
        -256, -10, -9, -8, -7, -6, -5, -4, -3, -2, -1, 0, 1, 2, 3, 4, 5, 6, 7, 8, 9, 10, 11, 31, 32, 33, 39, 40, 41,
        42, 49, 50, 63, 64, 65, 127, 128, 129, 255, 256, 257, 511, 512, 65536, 1 << 30, Integer.MAX_VALUE - 1,
        Integer.MAX_VALUE};
    private static final int[] FEW = {Integer.MIN_VALUE, -2, -1, 0, 1, 2, 5, 6, 7, 8, 9, 10, 11, 39, 40, 41, 49, 50,
        Integer.MAX_VALUE};
    private static final int CALLS = 512;
    /** How many numbers each call takes, as Pair has them. */
    private static final int[] TAKES = {1, 0, 0, 2, 2, 2, 2, 1, 1, 1, 3, 2, 0, 1, 0, 1, 2, 1, 2, 1, 1, 3, 2, 0, 0, 1, 0,
        2, 1, 1, 1, 0};
    private static final String ONE = "l0 0 9;s0 3 0 8;b0 0;";
    private static final String SOME = "l0 0 5;l0 3 2;l1 4 3;s0 3 8 9;s2 6 5 3;b9 3;b30 1;u40;t6;";

    public static void main(String[] args) {
        String[] texts = {"", "l0 0 1;", "b40 6;u0;t0;", ONE, SOME, Twins.ALL_TOLD};
        for (String text : texts) {
            for (int deeds = 0; deeds <= 2; deeds++) {
                for (int call = 0; call < TAKES.length; call++) {
                    sweep(text, deeds, call);
                }
            }
        }
        callsBeyondTheLast();
        CHECK.end();
    }

    /** As told; or with steps, images and things seen; or with all of that full and all strings cut. */
    private static Pair made(String text, int deeds) {
        Pair pair = new Pair();
        boolean well = pair.types(text) && pair.same(2, 0, 0, 0);
        if (deeds > 0) {
            well &= pair.same(7, -3, 0, 0) && pair.same(8, -3, 0, 0) && pair.same(9, 0, 0, 0) && pair.same(28, 0, 0, 0)
                && pair.same(13, 0, 0, 0) && pair.same(22, 0, 0, 0) && pair.same(0, 'u', 0, 0);
        }
        for (int i = 0; deeds > 1 && i < 10; i++) {
            well &= pair.same(9, i, 0, 0) && pair.same(12, 0, 0, 0) && pair.same(22, 0, 0, 0)
                && pair.same(28, 1, 0, 0);
        }
        CHECK.isTrue("made by " + pair.told(), well);
        return pair;
    }

    private static void sweep(String text, int deeds, int call) {
        int[] first = TAKES[call] > 2 ? FEW : MANY;
        int[] none = {0};
        int[] second = TAKES[call] > 2 ? FEW : TAKES[call] > 1 ? MANY : none;
        int[] third = TAKES[call] > 2 ? FEW : none;
        Pair pair = made(text, deeds);
        for (int a : TAKES[call] > 0 ? first : none) {
            for (int b : second) {
                for (int c : third) {
                    if (pair.calls() + 8 > CALLS) {
                        pair = made(text, deeds);
                    }
                    ask(pair, call, a, b, c);
                }
            }
        }
    }

    /** The call, and behind it what it could have changed. */
    private static void ask(Pair pair, int call, int a, int b, int c) {
        boolean well = pair.same(call, a, b, c);
        for (int what = 0; what <= 3; what++) {
            well &= pair.same(15, what, 0, 0);
        }
        for (int what = 3; what <= 5; what++) {
            well &= pair.same(30, what, 0, 0);
        }
        CHECK.isTrue(well ? "as the model" : pair.told(), well);
    }

    /** What calls behind the 512th answer is free; but rule 7 has none of them throw. */
    private static void callsBeyondTheLast() {
        for (String text : new String[] {"", ONE, Twins.ALL_TOLD}) {
            Pair pair = new Pair();
            boolean well = pair.types(text) && pair.same(2, 0, 0, 0);
            for (int round = 0; round < 20; round++) {
                for (int call = 0; call < TAKES.length; call++) {
                    for (int n : FEW) {
                        pair.ofBar(call, n, n, n);
                        pair.ofBar(call, 0, n, 1);
                    }
                }
            }
            CHECK.isTrue("no call threw", well);
        }
    }
}
