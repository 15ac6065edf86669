/** Promises 1 to 6: a new object, PAYERS, PURSES, THE TILL, the ROW of a TOLD one. */
final class Payers extends Group {
    void sayAll(Sentences s) {
        newObject(s);
        payer(s);
        refusals(s);
        ofWhat(s);
        purse(s);
        till(s);
        row(s);
    }

    private void newObject(Sentences s) {
        s.promise(1);
        s.says("Nobody, no TOWN, nine of each SORT in THE TILL.", x -> {
            x.is(0, "count(0)", "count(1)", "count(2)", "count(3)", "count(4)", "count(5)", "count(6)");
            x.inTill(9, 9, 9, 9, 9, 9);
            x.hefts(2, 3, 4, 5, 6, 7);
            x.is(2, "told(0)");
            x.still(NONE, "of(0, 0)", "trace(0)", "exactly(0)");
            x.still(STATE, "undo()");
            x.still(NOTHING, "taken(0, 0)", "item(0, 0, 1)", "item(5, 0, 1)");
            x.still(NOBODY, "who()", "looked()");
            x.still(0, "fits()");
        });
        s.says("NONE = -1, BAD = -2, STATE = -3, FULL = -4", x -> {
            x.same("NONE", -1, RidCoppers.NONE);
            x.same("BAD", -2, RidCoppers.BAD);
            x.same("STATE", -3, RidCoppers.STATE);
            x.same("FULL", -4, RidCoppers.FULL);
        });
        s.says("The constants: `NO = Long.MIN_VALUE`: There is no such number.", x -> {
            x.same("NO", Long.MIN_VALUE, RidCoppers.NO);
            x.still(Long.MIN_VALUE, "read(0, 0)", "mean(1, 0)", "odds(0, 0)");
        });
        s.says("An object is used for at most 512 calls after it has been made", x -> {
            x.is(0, "payer(0, 0)", "purse(0, 5, 1)");
            x.times(509, 9, "told(10)");
            x.is(1, "pay(0, 13)");
            x.made(512);
        });
    }

    private void payer(Sentences s) {
        s.promise(2);
        s.says("PAYERS 0 .. 3, as they come", x -> {
            for (int p = 0; p < 4; p++) {
                x.still(NONE, "of(" + p + ", 0)");
                x.is(p, "payer(" + (p + 3) + ", 0)");
                x.is(p + 3, "of(" + p + ", 0)");
                x.is(p + 1, "count(0)");
            }
            x.still(NONE, "of(-1, 0)", "of(4, 0)", "of(MIN, 0)", "of(MAX, 0)");
        });
        s.says("A PAYER: its number.", x -> {
            x.is(0, "payer(6, 9)");
            x.is(1, "payer(6, 9)");
            x.is(2, "payer(0, 0)");
            x.is(3, "payer(0, 0)");
        });
        s.says("NONE: kind", x -> {
            x.still(NONE, "payer(-1, 0)", "payer(7, 0)", "payer(MIN, 0)", "payer(MAX, 0)");
            x.still(NONE, "payer(-1, -1)", "payer(7, 10)");
            x.is(0, "payer(0, 0)");
            x.is(1, "payer(6, 0)");
            x.is(2, "payer(1, 0)");
            x.is(3, "payer(5, 0)");
            x.still(NONE, "payer(-1, 0)", "payer(7, 10)");
        });
        s.says("BAD: v", x -> {
            x.still(BAD, "payer(0, -1)", "payer(6, 10)", "payer(3, MIN)", "payer(3, MAX)");
            x.is(0, "payer(0, 0)");
            x.is(1, "payer(0, 9)");
            x.is(2, "payer(0, 1)");
            x.is(3, "payer(0, 8)");
            x.still(BAD, "payer(0, -1)", "payer(6, 10)");
        });
        s.says("with a number v (0 .. 9)", x -> {
            x.is(0, "payer(3, 0)");
            x.is(1, "payer(3, 9)");
            x.is(0, "of(0, 1)");
            x.is(9, "of(1, 1)");
            x.still(BAD, "payer(3, -1)", "payer(3, 10)");
        });
        s.says("FULL: 4.", x -> {
            x.is(0, "payer(0, 0)");
            x.is(1, "payer(0, 0)");
            x.is(2, "payer(0, 0)");
            x.is(3, "count(0)", "payer(0, 0)");
            x.still(FULL, "payer(0, 0)", "payer(6, 9)");
            x.is(4, "count(0)");
        });
        s.says("Answers: NONE (-1) no such number; BAD (-2) a number is not as told; STATE (-3) as told; FULL"
                + " (-4); the first that a call's words name.", x -> {
            x.is(0, "payer(0, 0)");
            x.is(1, "payer(6, 0)");
            x.still(NONE, "payer(7, 10)", "row(0, 4, 6)");
            x.still(BAD, "row(0, 0, 6)");
            x.still(STATE, "row(0, 0, 0)");
            x.is(2, "payer(0, 0)");
            x.is(3, "payer(0, 0)");
            x.still(NONE, "payer(7, 10)");
            x.still(BAD, "payer(6, 10)");
            x.still(FULL, "payer(6, 9)");
        });
    }

    private void refusals(Sentences s) {
        s.promise(2);
        s.says("What is answered so changes nothing; what is asked changes nothing.", x -> {
            rich(x);
            x.still(NONE, "payer(7, 0)", "purse(3, 0, 1)", "till(6, 1)", "row(0, 4, 1)", "pay(3, 1)", "book(3, 1)",
                    "tape(6, 0, 1)", "item(6, 0, 1)", "shift(0, 0, 6, 0, 1)");
            x.still(BAD, "payer(0, 10)", "purse(0, 0, 100)", "till(0, 100)", "row(0, 0, 6)", "feed(128)",
                    "pay(0, 200)", "price(0)", "see(0, 0)", "book(0, 0)", "tape(0, 5, 1)", "heaviest(0, 9)",
                    "taken(0, 7)");
            x.still(STATE, "row(1, 0, 0)", "pay(0, 199)");
            x.still(PLACE, "item(0, 3, 1)", "shift(0, 2, 0, 0, 2)");
            x.still(CAST, "shift(0, 0, 1, 0, 1)", "judge(1, 0)", "taken(1, 4)");
            x.still(NOTHING, "item(2, 0, 1)", "shift(0, 0, 2, 0, 0)", "taken(3, 0)");
            x.still(SIZE, "tape(0, 0, -1)");
        });
    }

    private void ofWhat(Sentences s) {
        s.promise(3);
        s.says("Of a PAYER what 0 KIND, 1 v, 2 PAID, 3 WEIGHT, 4 COINS of its PURSE, 10 and s COUNTS, 20 and s"
                + " KEPT of SORT s.", x -> {
            x.is(0, "payer(5, 8)");
            x.purse(0, 1, 2, 3, 4, 5, 6);
            x.town(0, "keep 7 s=0;keep 9 s=5");
            x.still(5, "of(0, 0)");
            x.still(8, "of(0, 1)");
            x.still(0, "of(0, 2)");
            x.still(2 + 6 + 12 + 20 + 30 + 42, "of(0, 3)");
            x.still(21, "of(0, 4)");
            x.inPurse(0, 1, 2, 3, 4, 5, 6);
            x.kept(0, 7, 0, 0, 0, 0, 9);
            x.still(NONE, "of(0, MIN)", "of(0, -1)", "of(0, 5)", "of(0, 9)", "of(0, 16)", "of(0, 19)", "of(0, 26)",
                    "of(0, MAX)");
        });
        s.says("NONE.", x -> {
            x.still(NONE, "of(0, 0)", "of(-1, 0)");
            x.is(0, "payer(0, 0)");
            x.is(1, "payer(1, 0)");
            x.is(1, "of(1, 0)");
            x.still(NONE, "of(-1, 0)", "of(2, 0)", "of(2, 10)", "of(2, 20)", "of(-1, 26)");
        });
        s.says("a PURSE: COUNTS of each SORT (0 .. 99; 0 at first)", x -> {
            x.is(0, "payer(0, 0)");
            x.inPurse(0, 0, 0, 0, 0, 0, 0);
            x.is(0, "of(0, 3)", "of(0, 4)");
            x.purse(0, 99, 99, 99, 99, 99, 99);
            x.inPurse(0, 99, 99, 99, 99, 99, 99);
            x.is(99 * (2 + 3 + 4 + 5 + 6 + 7), "of(0, 3)");
            x.is(594, "of(0, 4)");
        });
        s.says("WEIGHT of a PURSE: COUNTS times HEFT, of all SORTS together.", x -> {
            x.is(0, "payer(0, 0)", "of(0, 3)", "purse(0, 0, 1)", "purse(0, 5, 99)");
            x.is(2 + 99 * 7, "of(0, 3)");
            x.town(0, "heft 99 s=5");
            x.is(99 * 99, "of(0, 3)");
            x.town(1, "heft 0 s=5");
            x.is(0, "of(0, 3)");
        });
        s.says("PAID (how often; 0 at first; 9999 at most)", x -> {
            x.is(0, "payer(0, 0)");
            x.is(0, "of(0, 2)");
            x.purse(0, 99, 99, 99, 99, 99, 99);
            x.till(0, 0, 0, 0, 0, 0);
            // an object is not used for as many calls as would reach 9999
            x.times(497, 1, "pay(0, 1)");
            x.is(497, "of(0, 2)");
            x.made(512);
        });
        s.says("A payment: the HAND goes to THE TILL, BACK to the PURSE; PAID is 1 more.", x -> {
            x.is(0, "payer(0, 0)");
            x.is(1, "payer(0, 0)");
            x.purse(0, 1, 1, 0, 0, 1, 1);
            x.hand(0, 67, 0, 0, 0, 0, 1, 1);
            x.is(2, "pay(0, 67)");
            x.inPurse(0, 2, 2, 0, 0, 0, 0);
            x.inTill(8, 8, 9, 9, 10, 10);
            x.is(1, "of(0, 2)");
            x.is(0, "of(1, 2)", "of(1, 4)");
        });
    }

    private void purse(Sentences s) {
        s.promise(4);
        s.says("COUNTS of a SORT in a PURSE become n (0 .. 99): what they were.", x -> {
            x.is(0, "payer(0, 0)", "purse(0, 0, 99)", "purse(0, 5, 99)");
            x.is(99, "of(0, 10)", "of(0, 15)", "purse(0, 0, 0)", "purse(0, 5, 98)");
            x.is(0, "of(0, 10)", "purse(0, 0, 1)");
            x.is(98, "of(0, 15)");
            x.is(1, "purse(0, 0, 1)");
            x.inPurse(0, 1, 0, 0, 0, 0, 98);
        });
        s.says("NONE", x -> {
            x.still(NONE, "purse(0, 0, 1)");
            x.is(0, "payer(0, 0)");
            x.is(1, "payer(0, 0)");
            x.is(0, "purse(1, 0, 1)");
            x.still(NONE, "purse(-1, 0, 1)", "purse(2, 0, 1)", "purse(0, -1, 1)", "purse(1, 6, 1)");
            x.still(NONE, "purse(MIN, 0, 1)", "purse(MAX, 0, 1)", "purse(0, MIN, 1)", "purse(0, MAX, 1)");
            x.still(NONE, "purse(2, 0, 100)", "purse(0, 6, -1)");
        });
        s.says("BAD.", x -> {
            x.is(0, "payer(0, 0)", "purse(0, 0, 50)");
            x.still(BAD, "purse(0, 0, -1)", "purse(0, 0, 100)", "purse(0, 5, MIN)", "purse(0, 5, MAX)");
            x.is(50, "purse(0, 0, 99)");
            x.still(BAD, "purse(0, 0, 100)");
            x.is(99, "purse(0, 0, 0)");
            x.still(BAD, "purse(0, 0, -1)");
            x.is(0, "purse(0, 0, 0)");
        });
    }

    private void till(Sentences s) {
        s.promise(5);
        s.says("COUNTS of a SORT in THE TILL become n (0 .. 99): what they were.", x -> {
            x.is(9, "till(0, 99)", "till(5, 0)");
            x.is(99, "told(10)", "till(0, 0)");
            x.is(0, "told(15)", "till(5, 99)", "told(10)");
            x.is(99, "till(5, 98)");
            x.inTill(0, 9, 9, 9, 9, 98);
        });
        s.says("THE TILL: COUNTS of each SORT (0 .. 99; 9 at first).", x -> {
            x.inTill(9, 9, 9, 9, 9, 9);
            x.till(99, 0, 99, 0, 99, 0);
            x.inTill(99, 0, 99, 0, 99, 0);
        });
        s.says("NONE", x -> {
            x.still(NONE, "till(-1, 1)", "till(6, 1)", "till(MIN, 1)", "till(MAX, 1)");
            x.still(NONE, "till(-1, -1)", "till(6, 100)");
            x.is(9, "till(0, 1)", "till(5, 1)");
        });
        s.says("BAD.", x -> {
            x.still(BAD, "till(0, -1)", "till(0, 100)", "till(5, MIN)", "till(5, MAX)");
            x.is(9, "till(0, 99)");
            x.still(BAD, "till(0, 100)");
            x.is(99, "till(0, 0)");
            x.still(BAD, "till(0, -1)");
            x.is(0, "till(0, 0)");
        });
        s.says("SORTS of coins 0 .. 5, worth 1, 2, 5, 10, 20, 50.", x -> {
            x.is(0, "payer(0, 0)");
            int[] worth = {1, 2, 5, 10, 20, 50};
            x.till(0, 0, 0, 0, 0, 0);
            for (int sort = 0; sort < 6; sort++) {
                x.is(0, "purse(0, " + sort + ", 1)");
                x.is(worth[sort], "would(0, " + worth[sort] + ", 0)");
                x.is(NOBODY, "would(0, " + (worth[sort] + 1) + ", 0)");
                x.is(1, "purse(0, " + sort + ", 0)");
            }
            x.still(NONE, "till(-1, 0)", "till(6, 0)", "purse(0, -1, 0)", "purse(0, 6, 0)");
        });
    }

    private void row(Sentences s) {
        s.promise(6);
        s.says("The ROW of a TOLD one becomes a SORT for PAID modulo 4 being part: what it was.", x -> {
            x.is(0, "payer(6, 0)", "row(0, 0, 5)", "row(0, 1, 4)", "row(0, 2, 3)", "row(0, 3, 2)");
            x.is(5, "row(0, 0, 0)");
            x.is(4, "row(0, 1, 5)");
            x.is(3, "row(0, 2, 3)");
            x.is(2, "row(0, 3, 1)");
            x.is(0, "row(0, 0, 0)");
            x.is(5, "row(0, 1, 0)");
            x.is(3, "row(0, 2, 3)");
            x.is(1, "row(0, 3, 1)");
        });
        s.says("NONE: payer, part", x -> {
            x.still(NONE, "row(0, 0, 0)");
            x.is(0, "payer(6, 0)");
            x.is(1, "payer(0, 0)");
            x.is(0, "row(0, 0, 5)", "row(0, 3, 5)");
            x.still(NONE, "row(-1, 0, 0)", "row(2, 0, 0)", "row(0, -1, 0)", "row(0, 4, 0)", "row(0, MIN, 0)",
                    "row(0, MAX, 0)");
            x.still(NONE, "row(0, 4, 6)", "row(0, -1, -1)", "row(1, 4, 0)", "row(2, 0, 6)");
        });
        s.says("BAD: n", x -> {
            x.is(0, "payer(6, 0)", "row(0, 0, 5)");
            x.is(1, "payer(0, 0)");
            x.still(BAD, "row(0, 0, -1)", "row(0, 0, 6)", "row(0, 3, MIN)", "row(0, 3, MAX)");
            x.still(BAD, "row(1, 0, -1)", "row(1, 0, 6)");
            x.is(5, "row(0, 0, 0)");
            x.is(0, "row(0, 0, 0)");
        });
        s.says("STATE: another KIND.", x -> {
            for (int kind = 0; kind < 4; kind++) {
                x.is(kind, "payer(" + kind + ", 0)");
                x.still(STATE, "row(" + kind + ", 0, 0)", "row(" + kind + ", 3, 5)");
            }
        });
        s.says("STATE: another KIND", x -> {
            x.is(0, "payer(4, 0)");
            x.is(1, "payer(5, 0)");
            x.is(2, "payer(6, 0)");
            x.still(STATE, "row(0, 0, 0)", "row(1, 3, 5)");
            x.is(0, "row(2, 3, 5)");
        });
    }
}
