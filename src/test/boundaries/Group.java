/** Sentences that belong together; they share the answers' names. */
abstract class Group {
    static final int NONE = -1, BAD = -2, STATE = -3, FULL = -4, NOBODY = -5;
    static final int NOTHING = -11, CAST = -12, PLACE = -13, SIZE = -14;
    static final int PAYER = 0, EXACT = 1, ROUGH = 2, KEEPER = 3, LIGHT = 4, WILD = 5, TOLD = 6;
    static final long NO = Long.MIN_VALUE;

    abstract void sayAll(Sentences s);

    /** Something of all that there is, so that a call that changes what it should not is seen. */
    static void rich(Run x) {
        x.is(0, "payer(6, 3)", "row(0, 0, 4)", "row(0, 1, 1)");
        x.is(1, "payer(3, 4)");
        x.is(2, "payer(4, 5)");
        x.purse(0, 3, 2, 2, 1, 1, 2);
        x.purse(1, 2, 2, 2, 2, 2, 2);
        x.purse(2, 1, 0, 3, 0, 2, 1);
        x.is(9, "till(3, 4)");
        x.town(0, "keep 1 p=1;heft 6 s<3;heft 1 w>9");
        x.is(1, "price(13)", "see(19, 6)", "book(0, 7)");
        x.is(2, "price(31)", "see(8, 9)", "book(2, 30)");
        x.is(3, "image()", "price(6)", "book(1, 44)");
        x.is(1, "pay(0, 50)");
        x.is(1, "tape(0, 0, 3)", "item(0, 0, 9)", "item(0, 1, 8)", "tape(1, 1, 2)", "item(1, 1, 700)");
        x.is(15 ^ 3, "act(0, 0, 15)");
        x.feed("kee");
    }
}
