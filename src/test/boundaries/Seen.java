/** Promises 21 to 26: what is SEEN and who fits it, odds and means, the BOOK. */
final class Seen extends Group {
    void sayAll(Sentences s) {
        see(s);
        fits(s);
        odds(s);
        mean(s);
        book(s);
        looked(s);
    }

    private void see(Sentences s) {
        s.promise(21);
        s.says("What is SEEN comes: how many there are (price -1: none then, 0, whatever the other is).", x -> {
            x.is(0, "see(-1, 0)", "count(3)");
            x.is(1, "see(1, 0)", "count(3)");
            x.is(2, "see(199, 99)");
            x.is(0, "see(-1, 100)", "count(3)", "see(-1, -1)", "see(-1, MIN)", "see(-1, MAX)");
            x.is(1, "see(1, 0)");
            x.is(2, "see(1, 0)");
            x.is(3, "see(1, 0)");
            x.is(4, "see(1, 0)");
            x.is(0, "see(-1, 99)", "count(3)");
        });
        s.says("BAD: price, coins", x -> {
            x.still(BAD, "see(0, 5)", "see(200, 5)", "see(-2, 5)", "see(MIN, 5)", "see(MAX, 5)");
            x.still(BAD, "see(5, -1)", "see(5, 100)", "see(5, MIN)", "see(5, MAX)");
            x.is(1, "see(1, 0)");
            x.is(2, "see(199, 99)");
            x.is(3, "see(1, 99)");
            x.is(4, "see(199, 0)");
            x.still(BAD, "see(0, 5)", "see(200, 5)", "see(5, -1)", "see(5, 100)");
        });
        s.says("FULL: 4.", x -> {
            x.is(1, "see(1, 1)");
            x.is(2, "see(1, 1)");
            x.is(3, "see(1, 1)", "count(3)");
            x.is(4, "see(1, 1)");
            x.still(FULL, "see(1, 1)", "see(199, 99)");
            x.is(4, "count(3)");
            x.is(0, "see(-1, 0)");
            x.is(1, "see(1, 1)");
        });
        s.says("SEEN told by hand: COINS (0 .. 99) of a PURSE behind a payment of a price (4 at most).", x -> {
            x.is(0, "payer(0, 0)", "purse(0, 0, 1)");
            x.is(1, "see(1, 0)", "fits()");
            x.purse(0, 99, 1, 0, 0, 0, 0);
            x.is(0, "fits()", "see(-1, 0)");
            x.is(1, "see(2, 99)", "fits()");
            x.is(0, "purse(0, 2, 1)", "fits()");
            x.still(BAD, "see(2, 100)");
            x.is(0, "see(-1, 0)", "count(3)");
        });
    }

    private void fits(Sentences s) {
        s.promise(22);
        s.says("FITS, as bits.", x -> {
            x.still(0, "fits()");
            for (int p = 0; p < 4; p++) {
                x.is(p, "payer(0, 0)");
                x.still((2 << p) - 1, "fits()");
            }
            x.is(1, "see(1, 0)");
            x.still(0, "fits()");
            x.is(0, "purse(3, 0, 1)");
            x.still(8, "fits()");
            x.is(0, "purse(0, 0, 1)");
            x.still(9, "fits()");
        });
        s.says("FITS: those PAYERS, as bits, of whose payment of each price (each alone, from"
                + " now) that is so.", x -> {
            x.is(0, "payer(0, 0)", "purse(0, 0, 2)");
            x.is(1, "payer(2, 0)");
            x.is(0, "purse(1, 1, 2)");
            x.is(1, "see(1, 1)", "fits()");
            x.is(2, "see(1, 1)");
            x.is(3, "see(1, 1)");
            x.is(4, "see(1, 1)");
            x.is(1, "fits()");
            x.is(0, "see(-1, 0)");
            x.is(1, "see(2, 0)", "fits()");
            x.is(2, "see(1, 1)");
            x.is(1, "fits()");
            x.is(3, "see(2, 1)");
            x.is(0, "fits()");
            // COINS as they are, of a price that can not be paid
            x.is(0, "see(-1, 0)");
            x.is(1, "see(5, 2)");
            x.is(0, "fits()");
        });
    }

    private void odds(Sentences s) {
        s.promise(23);
        s.says("ODDS; part 0 above, 1 below the line.", x -> {
            x.is(0, "payer(0, 0)");
            x.is(9, "till(0, 0)");
            x.is(0, "purse(0, 0, 1)");
            x.still(1, "odds(0, 0)");
            x.still(20, "odds(0, 1)");
            x.still(NO, "odds(0, -1)", "odds(0, 2)", "odds(0, MIN)", "odds(0, MAX)");
        });
        s.says("NO.", x -> {
            x.still(NO, "odds(0, 0)", "odds(-1, 0)");
            x.is(0, "payer(0, 0)");
            x.still(NO, "odds(1, 0)", "odds(-1, 1)", "odds(4, 0)", "odds(MIN, 0)", "odds(MAX, 0)", "odds(0, 2)",
                    "odds(1, 2)");
        });
        s.says("ODDS of a PAYER: if the price is any of 1 .. 20, each alike likely: how likely it can pay: a"
                + " fraction in lowest terms.", x -> {
            x.is(0, "payer(0, 0)", "odds(0, 0)");
            x.is(1, "odds(0, 1)");
            x.till(0, 0, 0, 0, 0, 0);
            // 20; 1 and 20, but not 21; then 1, 2, 3, 20
            x.purse(0, 0, 0, 0, 0, 1, 0);
            x.is(1, "odds(0, 0)");
            x.is(20, "odds(0, 1)");
            x.purse(0, 1, 0, 0, 0, 1, 0);
            x.is(1, "odds(0, 0)");
            x.is(10, "odds(0, 1)");
            x.purse(0, 1, 1, 0, 0, 1, 0);
            x.is(1, "odds(0, 0)");
            x.is(5, "odds(0, 1)");
            x.purse(0, 1, 1, 0, 1, 0, 0);
            x.is(7, "odds(0, 0)");
            x.is(20, "odds(0, 1)");
            x.purse(0, 2, 2, 2, 2, 0, 0);
            x.is(1, "odds(0, 0)", "odds(0, 1)");
        });
    }

    private void mean(Sentences s) {
        s.promise(24);
        s.says("MEAN; part likewise.", x -> {
            x.is(0, "payer(0, 0)", "purse(0, 0, 2)");
            x.still(2, "mean(2, 0)");
            x.still(1, "mean(2, 1)");
            x.still(NO, "mean(2, -1)", "mean(2, 2)", "mean(2, MIN)", "mean(2, MAX)");
        });
        s.says("NO: also a price that is not 1 .. 199.", x -> {
            x.is(0, "payer(0, 0)");
            x.purse(0, 2, 2, 2, 2, 2, 2);
            x.still(NO, "mean(0, 0)", "mean(200, 1)", "mean(-1, 0)", "mean(MIN, 0)", "mean(MAX, 1)");
            x.still(NO, "mean(177, 0)", "mean(199, 0)");
            x.is(1, "mean(1, 0)", "mean(1, 1)", "mean(176, 1)");
            x.is(12, "mean(176, 0)");
        });
        s.says("MEAN of a price: COINS handed over by all PAYERS who can pay it, together, by how many they are:"
                + " a fraction in lowest terms (NO: nobody).", x -> {
            x.still(NO, "mean(5, 0)", "mean(5, 1)");
            for (int p = 0; p < 4; p++) {
                x.is(p, "payer(0, 0)");
                x.is(0, "purse(" + p + ", 5, 0)");
            }
            x.still(NO, "mean(5, 0)", "mean(5, 1)");
            x.purse(3, 1, 2, 0, 0, 0, 0);
            x.is(3, "mean(5, 0)");
            x.is(1, "mean(5, 1)");
            x.purse(0, 0, 0, 1, 0, 0, 0);
            x.is(2, "mean(5, 0)");
            x.is(1, "mean(5, 1)");
            x.purse(1, 0, 0, 1, 0, 0, 0);
            x.is(5, "mean(5, 0)");
            x.is(3, "mean(5, 1)");
            x.purse(2, 0, 0, 1, 0, 0, 0);
            x.is(3, "mean(5, 0)");
            x.is(2, "mean(5, 1)");
        });
    }

    private void book(Sentences s) {
        s.promise(25);
        s.says("A row comes to the BOOK: how many there are (payer -1: it is empty then, 0, whatever"
                + " the other is).", x -> {
            x.is(0, "payer(0, 0)", "book(-1, 0)", "count(4)");
            x.is(1, "book(0, 1)", "count(4)");
            x.is(2, "book(0, 199)");
            x.is(0, "book(-1, 1)", "count(4)", "book(-1, 200)", "book(-1, MIN)", "book(-1, MAX)");
            for (int n = 1; n <= 8; n++) {
                x.is(n, "book(0, 1)");
            }
            x.is(0, "book(-1, 0)", "count(4)");
            x.is(1, "book(0, 1)");
        });
        s.says("NONE", x -> {
            x.still(NONE, "book(0, 1)", "book(-2, 1)");
            x.is(0, "payer(0, 0)");
            x.is(1, "book(0, 1)");
            x.still(NONE, "book(1, 1)", "book(-2, 1)", "book(4, 1)", "book(MIN, 1)", "book(MAX, 1)", "book(1, 0)",
                    "book(-2, 200)");
            for (int n = 2; n <= 8; n++) {
                x.is(n, "book(0, 1)");
            }
            x.still(NONE, "book(1, 1)");
        });
        s.says("BAD: price", x -> {
            x.is(0, "payer(0, 0)");
            x.still(BAD, "book(0, 0)", "book(0, 200)", "book(0, -1)", "book(0, MIN)", "book(0, MAX)");
            for (int n = 1; n <= 8; n += 2) {
                x.is(n, "book(0, 1)");
                x.is(n + 1, "book(0, 199)");
            }
            x.still(BAD, "book(0, 0)", "book(0, 200)");
        });
        s.says("FULL: 8.", x -> {
            x.is(0, "payer(0, 0)");
            for (int n = 1; n <= 8; n++) {
                x.is(n, "book(0, 1)", "count(4)");
            }
            x.still(FULL, "book(0, 1)", "book(0, 199)");
            x.is(8, "count(4)");
            x.is(0, "book(-1, 0)");
            x.is(1, "book(0, 1)");
        });
    }

    private void looked(Sentences s) {
        s.promise(26);
        s.says("LOOKED at; -5.", x -> {
            x.still(NOBODY, "looked()");
            x.is(0, "payer(0, 0)");
            x.still(NOBODY, "looked()");
            x.is(1, "book(0, 1)");
            x.still(0, "looked()");
            x.is(0, "purse(0, 0, 1)");
            x.still(NOBODY, "looked()");
        });
        s.says("A BOOK told by hand: PAYERS and prices (8 at most), one behind the other from now on: LOOKED at:"
                + " the first that can not be paid (-5: none).", x -> {
            x.is(0, "payer(0, 0)", "purse(0, 0, 7)");
            for (int n = 1; n <= 8; n++) {
                x.is(n, "book(0, 1)");
                x.is(n == 8 ? 7 : NOBODY, "looked()");
            }
            x.is(7, "purse(0, 0, 8)");
            x.is(NOBODY, "looked()");
            x.is(8, "purse(0, 0, 3)");
            x.is(3, "looked()", "purse(0, 0, 0)");
            x.is(0, "looked()", "book(-1, 0)");
            // the 50 of the first gives back what the second hands over
            x.is(1, "payer(0, 0)", "book(0, 49)");
            x.is(0, "purse(0, 5, 1)", "purse(1, 0, 1)");
            x.till(0, 0, 0, 0, 9, 9);
            x.is(0, "looked()", "book(-1, 0)");
            x.is(1, "book(1, 1)");
            x.is(2, "book(0, 49)");
            x.is(NOBODY, "looked()");
            x.is(3, "book(1, 1)");
            x.is(2, "looked()");
        });
    }
}
