/** Counts and prints the answers that are not as due; what all tests of the project share. */
final class Check {
    private final String name;
    private int asked;
    private int wrong;

    Check(String name) {
        this.name = name;
    }

    void due(String call, long got, long want) {
        asked++;
        if (got != want) {
            wrong++;
            System.out.println(name + ": " + call + " answered " + got + ", due is " + want);
        }
    }

    void isTrue(String what, boolean holds) {
        due(what, holds ? 1 : 0, 1);
    }

    void end() {
        System.out.println(name + ": " + asked + " asked, " + wrong + " wrong");
        if (wrong != 0 || asked == 0) {
            System.exit(1);
        }
    }

    static void type(PuppetBar bar, String text) {
        for (int i = 0; i < text.length(); i++) {
            bar.type(text.charAt(i));
        }
    }

    /** What puppet() answers to this text alone. */
    static int read(PuppetBar bar, String text) {
        bar.clear();
        type(bar, text);
        return bar.puppet();
    }

    /** A new object of which this text tells. */
    static PuppetBar told(String text) {
        PuppetBar bar = new PuppetBar();
        int items = read(bar, text);
        if (items < 0) {
            throw new IllegalArgumentException("fault " + items + " in " + text);
        }
        return bar;
    }
}
