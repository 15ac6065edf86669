import java.util.ArrayList;
import java.util.List;

/** Calls of one new object with the answers that are due. */
final class Run {
    private final Calls calls = new Calls();
    private final List<String> faults = new ArrayList<>();

    List<String> faults() {
        return faults;
    }

    void fault(String what) {
        faults.add(what);
    }

    /** The call is made, whatever it answers. */
    long answer(String call) {
        return calls.answer(call);
    }

    /** Each of the calls answers that. */
    void is(long want, String... each) {
        for (String call : each) {
            long got = calls.answer(call);
            if (got != want) {
                fault("call " + calls.count() + ", " + call + " answered " + got + ", due is " + want);
            }
        }
    }

    void times(int n, long want, String call) {
        for (int i = 0; i < n; i++) {
            is(want, call);
        }
    }

    /** Each of the calls answers that, and changes nothing that other calls show. */
    void still(long want, String... each) {
        for (String call : each) {
            changesNothing(call);
            is(want, call);
        }
    }

    /** Two objects are compared, one with the call made of it and one without, as looking uses them up. */
    void changesNothing(String... each) {
        for (String call : each) {
            Calls other = calls.again();
            other.answer(call);
            compare(call + " changed something: ", View.of(calls.again()), View.of(other));
        }
    }

    /** With THE IMAGE as all is now, the changes are undone: all is shown as if they had not been. */
    void undoes(String... changes) {
        Calls other = calls.again();
        for (String change : changes) {
            other.answer(change);
        }
        other.answer("undo()");
        compare(String.join(", ", changes) + " and undo() changed something: ", View.of(calls.again()),
                View.of(other));
    }

    private void compare(String what, List<String> want, List<String> got) {
        for (int i = 0; i < want.size(); i++) {
            if (!want.get(i).equals(got.get(i))) {
                fault(what + got.get(i) + ", due is " + want.get(i));
                return;
            }
        }
    }

    /** How many calls have been made. */
    void made(int want) {
        same("calls made", want, calls.count());
    }

    void same(String what, long want, long got) {
        if (got != want) {
            fault(what + " is " + got + ", due is " + want);
        }
    }

    void feed(String text) {
        int had = (int) calls.answer("count(5)");
        for (int i = 0; i < text.length(); i++) {
            is(had + i + 1, "feed(" + (int) text.charAt(i) + ")");
        }
    }

    /** The text is a TOWN of that number. */
    void town(int want, String text) {
        feed(text);
        is(want, "town()");
    }

    /** Each of the texts, alone, is a TOWN; it is empty then. */
    void reads(String... texts) {
        for (String text : texts) {
            Run alone = new Run();
            alone.town(0, text);
            alone.is(0, "count(5)");
            alone.is(1, "count(1)");
            take(alone, text);
        }
    }

    /** Each of the texts, alone, has its FAULT there; it is empty then, and nothing else is changed. */
    void faultAt(int place, String... texts) {
        for (String text : texts) {
            Run alone = new Run();
            alone.town(0, "heft 50 s=3;most 1");
            List<String> before = View.of(alone.calls.again());
            alone.feed(text);
            alone.is(-10 - place, "town()");
            alone.is(0, "count(5)");
            alone.is(50, "told(23)");
            alone.compare("the fault changed something: ", before, View.of(alone.calls));
            take(alone, text);
        }
    }

    private void take(Run alone, String text) {
        for (String fault : alone.faults) {
            fault("<" + text + ">: " + fault);
        }
    }

    /** COUNTS of each SORT in a PURSE become these. */
    void purse(int payer, int... counts) {
        for (int s = 0; s < 6; s++) {
            calls.answer("purse(" + payer + ", " + s + ", " + counts[s] + ")");
        }
    }

    /** COUNTS of each SORT in THE TILL become these. */
    void till(int... counts) {
        for (int s = 0; s < 6; s++) {
            calls.answer("till(" + s + ", " + counts[s] + ")");
        }
    }

    void inPurse(int payer, int... want) {
        each("of(" + payer + ", 1", ")", want);
    }

    void inTill(int... want) {
        each("told(1", ")", want);
    }

    void hefts(int... want) {
        each("told(2", ")", want);
    }

    void kept(int payer, int... want) {
        each("of(" + payer + ", 2", ")", want);
    }

    /** What the PAYER would hand over of each SORT. */
    void hand(int payer, int price, int... want) {
        each("would(" + payer + ", " + price + ", 1", ")", want);
    }

    /** What the PAYER would get back of each SORT. */
    void back(int payer, int price, int... want) {
        each("would(" + payer + ", " + price + ", 2", ")", want);
    }

    /** The answers for SORT 0, 1 and so on, whose number stands between the two parts of the call. */
    private void each(String ahead, String behind, int... want) {
        for (int s = 0; s < 6; s++) {
            is(want[s], ahead + s + behind);
        }
    }
}
