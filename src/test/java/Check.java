import java.util.HashSet;
import java.util.Set;

/** Counts and prints the answers that are not as due; what all tests of the project share. */
final class Check {
    private final String name;
    private final Set<String> sentences = new HashSet<>();
    private String words = "";
    private int asked;
    private int wrong;

    Check(String name) {
        this.name = name;
    }

    /** What is asked from here on belongs to these words of the document. */
    void sentence(String ofTheDocument) {
        words = " [" + ofTheDocument + "]";
        sentences.add(ofTheDocument);
    }

    void due(String call, long got, long want) {
        asked++;
        if (got != want) {
            wrong++;
            System.out.println(name + words + ": " + call + " answered " + got + ", due is " + want);
        }
    }

    void isTrue(String what, boolean holds) {
        due(what, holds ? 1 : 0, 1);
    }

    /** What puppet() answers to this text on a new object, and that the text is gone just if it is good. */
    void reads(String text, int answer) {
        PuppetBar bar = new PuppetBar();
        due("'" + text + "'", read(bar, text), answer);
        due("bytes behind '" + text + "'", bar.count(5), answer < 0 ? text.length() : 0);
    }

    void fault(String text, int place) {
        reads(text, -10 - place);
    }

    void end() {
        String ofSentences = sentences.isEmpty() ? "" : " of " + sentences.size() + " sentences";
        System.out.println(name + ": " + asked + " asked" + ofSentences + ", " + wrong + " wrong");
        if (wrong != 0 || asked == 0) {
            System.exit(1);
        }
    }

    static void type(PuppetBar bar, String text) {
        for (int i = 0; i < text.length(); i++) {
            bar.type(text.charAt(i));
        }
    }

    /** What puppet() answers to this text alone. */
    static int read(PuppetBar bar, String text) {
        bar.clear();
        type(bar, text);
        return bar.puppet();
    }

    /** A new object of which this text tells. */
    static PuppetBar told(String text) {
        PuppetBar bar = new PuppetBar();
        int items = read(bar, text);
        if (items < 0) {
            throw new IllegalArgumentException("fault " + items + " in " + text);
        }
        return bar;
    }
}
