import java.io.IOException;
import java.util.function.Consumer;

/** Says which sentence of which promise a test is of, runs it on a new object, and tells how it went. */
final class Sentences {
    final Document document = new Document();
    private int promise = 0;
    private int said = 0;
    private int wrong = 0;

    Sentences() throws IOException { }

    void promise(int number) {
        promise = number;
    }

    /** The words stand in the promise, or in the terms, and what the test looks at is as they ask. */
    void says(String words, Consumer<Run> test) {
        said++;
        Run run = new Run();
        if (!document.names(promise, words)) {
            run.fault("these words are not the document's");
        }
        try {
            test.accept(run);
        } catch (RuntimeException e) {
            run.fault(e + (e.getCause() == null ? "" : " by " + e.getCause()));
        }
        boolean holds = run.faults().isEmpty();
        System.out.println((holds ? "holds  " : "BROKEN ") + "promise " + promise + ": " + words);
        for (String fault : run.faults()) {
            System.out.println("    " + fault);
        }
        wrong += holds ? 0 : 1;
    }

    int said() {
        return said;
    }

    int wrong() {
        return wrong;
    }
}
