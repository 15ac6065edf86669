import java.io.IOException;

/**
 * Each sentence of the document that names a boundary, with the calls that reach it from both sides; and
 * that no word of the promises and of the terms is left without a test that names it.
 */
public final class BoundaryTest {
    public static void main(String[] args) throws IOException {
        Sentences s = new Sentences();
        Group[] groups = {new Payers(), new Towns(), new Payments(), new Prices(), new Seen(), new Tapes()};
        for (Group group : groups) {
            group.sayAll(s);
        }
        int left = 0;
        for (int p = 1; p <= Document.PROMISES; p++) {
            left += leftOver("promise " + p, s.document.leftOfPromise(p));
        }
        left += leftOver("the terms", s.document.leftOfTerms());
        System.out.println(s.said() + " sentences, " + s.wrong() + " broken, " + left + " parts without a test");
        if (s.wrong() + left != 0) {
            System.exit(1);
        }
    }

    private static int leftOver(String where, String left) {
        if (!left.matches(".*[A-Za-z0-9].*")) {
            return 0;
        }
        System.out.println("no test names this of " + where + ": " + left);
        return 1;
    }
}
