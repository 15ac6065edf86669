import java.util.ArrayList;
import java.util.List;

/**
 * All that the other calls of an object show: what each answers, one behind the other. Looking uses the
 * object up, as some things are shown by a change alone: a ROW's SORT, THE TEXT, what THE IMAGE holds.
 */
final class View {
    private final Calls calls;
    private final List<String> lines = new ArrayList<>();

    private View(Calls calls) {
        this.calls = calls;
    }

    static List<String> of(Calls calls) {
        View view = new View(calls);
        view.whatIsTold();
        view.payers();
        view.trace();
        view.tapes();
        view.whatIsAsked();
        view.text();
        view.image();
        return view.lines;
    }

    private void see(String call) {
        lines.add(call + " = " + calls.answer(call));
    }

    private void whatIsTold() {
        for (int what = 0; what < 7; what++) {
            see("count(" + what + ")");
        }
        see("told(0)");
        for (int s = 0; s < 6; s++) {
            see("told(1" + s + ")");
            see("told(2" + s + ")");
        }
    }

    private void payers() {
        for (int p = 0; p < 4; p++) {
            for (int what = 0; what < 3; what++) {
                see("of(" + p + ", " + what + ")");
            }
            for (int s = 0; s < 6; s++) {
                see("of(" + p + ", 1" + s + ")");
                see("of(" + p + ", 2" + s + ")");
            }
            for (int part = 0; part < 4; part++) {
                see("row(" + p + ", " + part + ", 0)");
            }
        }
    }

    private void trace() {
        for (int i = 0; i < 12; i++) {
            see("trace(" + i + ")");
        }
    }

    /** Items, how many there are at most 3, and, by what a great number becomes, the sort. */
    private void tapes() {
        for (int t = 0; t < 6; t++) {
            for (int i = 0; i < 3; i++) {
                see("read(" + t + ", " + i + ")");
            }
            see("read(" + t + ", 59)");
            see("item(" + t + ", 0, 1099512676652)");
            see("read(" + t + ", 0)");
        }
    }

    /** Of a rich PAYER, who comes if there is room, so that the ROW of prices, SEEN, the BOOK are shown. */
    private void whatIsAsked() {
        see("who()");
        see("fits()");
        see("looked()");
        see("payer(0, 0)");
        for (int s = 0; s < 6; s++) {
            see("purse(0, " + s + ", 2)");
            see("till(" + s + ", 9)");
        }
        see("behind(0, 0)");
        see("behind(0, 2)");
        see("fits()");
        see("looked()");
    }

    private void text() {
        see("town()");
        see("told(0)");
        see("told(20)");
        see("told(25)");
        see("of(0, 20)");
    }

    private void image() {
        see("undo()");
        for (int what = 0; what < 6; what++) {
            see("count(" + what + ")");
        }
        for (int s = 0; s < 6; s++) {
            see("told(1" + s + ")");
        }
        see("told(20)");
        for (int p = 0; p < 4; p++) {
            see("of(" + p + ", 0)");
            see("of(" + p + ", 2)");
            see("of(" + p + ", 3)");
            see("of(" + p + ", 4)");
        }
    }
}
