import java.io.IOException;
import java.nio.file.Files;
import java.nio.file.Path;
import java.util.BitSet;

/** The document's words, and which of them a test has named. */
final class Document {
    static final int PROMISES = 37;
    private final String words;
    private final int terms;
    private final int termsEnd;
    private final int[] starts = new int[PROMISES + 2];
    private final BitSet named = new BitSet();

    Document() throws IOException {
        words = Files.readString(Path.of("../shared/DOC.md")).replaceAll("==== [0-9]|```\\w*", "")
                .replaceAll("\\s+", " ");
        terms = words.indexOf("## Terms") + "## Terms".length();
        termsEnd = words.indexOf("Ahead of the calls", terms);
        for (int p = 1; p <= PROMISES; p++) {
            starts[p] = words.indexOf("## Promise " + p + ":");
        }
        starts[PROMISES + 1] = words.indexOf("## Not promised");
    }

    /** Whether the sentence stands in the promise, or ahead of all promises. */
    boolean names(int promise, String sentence) {
        boolean inPromise = mark(sentence, starts[promise], starts[promise + 1]);
        return mark(sentence, 0, starts[1]) || inPromise;
    }

    private boolean mark(String sentence, int from, int to) {
        boolean found = false;
        int at = words.indexOf(sentence, from);
        while (at >= 0 && at + sentence.length() <= to) {
            named.set(at, at + sentence.length());
            found = true;
            at = words.indexOf(sentence, at + 1);
        }
        return found;
    }

    /** What no test names of a promise's words. */
    String leftOfPromise(int promise) {
        int face = words.indexOf("`: ", starts[promise]) + 3;
        return left(face, starts[promise + 1]);
    }

    /** What no test names of the words that tell the terms. */
    String leftOfTerms() {
        return left(terms, termsEnd);
    }

    private String left(int from, int to) {
        StringBuilder left = new StringBuilder();
        for (int i = from; i < to; i++) {
            left.append(named.get(i) ? '_' : words.charAt(i));
        }
        return left.toString().replaceAll("_+", "_");
    }
}
