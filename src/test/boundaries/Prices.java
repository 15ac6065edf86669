/** Promises 14 to 20: the ROW of prices, who can pay it, which price is best, short or heavy. */
final class Prices extends Group {
    void sayAll(Sentences s) {
        price(s);
        behind(s);
        behindWithTown(s);
        who(s);
        next(s);
        shortOf(s);
        more(s);
        heaviest(s);
    }

    private void price(Sentences s) {
        s.promise(14);
        s.says("A price comes to the ROW: how many there are (-1: none then, 0).", x -> {
            x.is(0, "count(2)", "price(-1)", "count(2)");
            x.is(1, "price(1)");
            x.is(2, "price(199)");
            x.is(3, "price(1)");
            x.is(4, "price(5)", "count(2)");
            x.is(0, "price(-1)", "count(2)", "price(-1)");
            x.is(1, "price(7)", "count(2)");
            x.is(0, "price(-1)", "count(2)");
        });
        s.says("BAD", x -> {
            x.still(BAD, "price(0)", "price(200)", "price(-2)", "price(MIN)", "price(MAX)");
            x.is(1, "price(1)");
            x.is(2, "price(199)");
            x.still(BAD, "price(0)", "price(200)", "price(-2)");
            x.is(3, "price(2)");
            x.is(4, "price(198)");
            x.still(BAD, "price(0)", "price(200)", "price(-2)");
        });
        s.says("FULL: 4.", x -> {
            x.is(1, "price(1)");
            x.is(2, "price(1)");
            x.is(3, "price(1)", "count(2)");
            x.is(4, "price(1)");
            x.still(FULL, "price(1)", "price(199)");
            x.is(4, "count(2)");
            x.is(0, "price(-1)");
            x.is(1, "price(1)");
        });
        s.says("A ROW of prices told by hand (4 at most)", x -> {
            x.is(0, "payer(0, 0)", "purse(0, 0, 9)");
            for (int n = 1; n <= 4; n++) {
                x.is(n, "price(1)");
                x.is(n, "behind(0, 2)");
                x.is(9 - n, "behind(0, 1)");
            }
            x.still(FULL, "price(1)");
            x.is(4, "behind(0, 2)");
        });
    }

    private void behind(Sentences s) {
        s.promise(15);
        s.says("BEHIND: what 0 WEIGHT, 1 COINS, 2 how many it has paid.", x -> {
            x.is(0, "payer(0, 0)", "purse(0, 0, 3)");
            x.is(1, "price(1)");
            x.still(4, "behind(0, 0)");
            x.still(2, "behind(0, 1)");
            x.still(1, "behind(0, 2)");
            x.still(NONE, "behind(0, -1)", "behind(0, 3)", "behind(0, MIN)", "behind(0, MAX)");
        });
        s.says("NONE.", x -> {
            x.still(NONE, "behind(0, 0)", "behind(-1, 0)");
            x.is(0, "payer(0, 0)");
            x.is(0, "behind(0, 0)", "behind(0, 1)", "behind(0, 2)");
            x.still(NONE, "behind(1, 0)", "behind(-1, 2)", "behind(4, 0)", "behind(MIN, 0)", "behind(MAX, 0)");
        });
        s.says("BEHIND of a PAYER: if it pays these one behind the other: WEIGHT, COINS of its PURSE then; how"
                + " many it has paid (those that it can not are passed over).", x -> {
            x.is(0, "payer(0, 0)");
            x.purse(0, 1, 1, 1, 0, 0, 1);
            x.is(0, "behind(0, 2)");
            x.is(4, "behind(0, 1)");
            x.is(2 + 3 + 4 + 7, "behind(0, 0)");
            x.is(1, "price(199)");
            x.is(0, "behind(0, 2)");
            x.is(4, "behind(0, 1)");
            x.is(2, "price(7)");
            x.is(1, "behind(0, 2)");
            x.is(2, "behind(0, 1)");
            x.is(3, "price(13)");
            x.is(2, "behind(0, 2)");
            x.is(5, "behind(0, 1)");
            x.is(2 + 3 + 4 + 5 + 6, "behind(0, 0)");
            x.is(4, "price(38)");
            x.still(3, "behind(0, 2)");
            x.still(0, "behind(0, 1)", "behind(0, 0)");
        });
        s.says("if it pays these one behind the other", x -> {
            // at PAID 0 no 50, at PAID 1 no 1; and the 1 that is paid first is there to come back
            x.is(0, "payer(6, 0)", "row(0, 0, 5)", "row(0, 1, 0)");
            x.purse(0, 2, 0, 0, 0, 0, 1);
            x.till(0, 2, 1, 0, 2, 9);
            x.is(1, "price(1)");
            x.is(2, "price(2)", "behind(0, 2)");
            x.is(1 + 5, "behind(0, 1)");
            x.is(1, "till(2, 0)", "behind(0, 2)");
            x.is(2, "behind(0, 1)");
        });
    }

    private void behindWithTown(Sentences s) {
        s.promise(15);
        s.says("how many it has paid (those that it can not are passed over).", x -> {
            x.is(0, "payer(0, 0)", "purse(0, 0, 9)");
            x.is(1, "price(1)");
            x.is(2, "price(1)");
            x.is(3, "price(1)");
            x.is(3, "behind(0, 2)");
            x.town(0, "keep 9 d=1");
            x.is(1, "behind(0, 2)");
            x.is(8, "behind(0, 1)");
            x.town(1, "keep 9 d=2");
            x.is(2, "behind(0, 2)");
            x.is(7, "behind(0, 1)");
            x.town(2, "keep 10 d=0");
            x.is(0, "behind(0, 2)");
            x.is(9, "behind(0, 1)");
        });
    }

    private void who(Sentences s) {
        s.promise(16);
        s.says("WHO; -5.", x -> {
            x.still(NOBODY, "who()");
            x.is(1, "price(1)");
            x.still(NOBODY, "who()");
            x.is(0, "payer(0, 0)");
            x.still(NOBODY, "who()");
            x.is(0, "purse(0, 0, 1)");
            x.still(0, "who()");
        });
        s.says("WHO: of PAYERS who, each alone from now on, can pay all of the ROW, one behind the other, the one"
                + " with the fewest COINS of its PURSE then (of several the first; -5: nobody can).", x -> {
            for (int p = 0; p < 4; p++) {
                x.is(p, "payer(0, 0)");
            }
            x.is(0, "who()");
            x.is(0, "purse(0, 0, 3)", "purse(1, 0, 2)", "purse(2, 0, 2)", "purse(3, 1, 9)");
            x.is(1, "who()", "price(1)");
            x.is(2, "price(1)");
            x.is(1, "who()");
            x.is(3, "price(1)");
            x.is(0, "who()");
            x.is(4, "price(1)");
            x.is(3, "who()");
            x.is(9, "purse(3, 1, 0)");
            x.is(NOBODY, "who()");
            x.is(3, "purse(0, 0, 4)");
            x.is(2, "purse(2, 0, 4)");
            x.is(0, "who()");
            x.is(2, "purse(1, 0, 5)");
            x.is(4, "purse(0, 0, 6)", "purse(2, 0, 6)");
            x.is(1, "who()");
        });
        s.says("each alone from now on", x -> {
            x.is(0, "payer(0, 0)", "purse(0, 5, 1)", "purse(0, 4, 1)");
            x.is(1, "payer(0, 0)");
            x.is(0, "purse(1, 5, 1)");
            x.till(1, 2, 0, 0, 0, 9);
            // a 5 in small coins is there but once
            x.is(1, "price(45)");
            x.is(1, "who()");
        });
    }

    private void next(Sentences s) {
        s.promise(17);
        s.says("NEXT; -5.", x -> {
            x.is(0, "payer(0, 0)");
            x.still(NOBODY, "next(0)");
            x.is(0, "purse(0, 0, 1)");
            x.still(1, "next(0)");
        });
        s.says("NONE.", x -> {
            x.still(NONE, "next(0)", "next(-1)");
            x.is(0, "payer(0, 0)");
            x.still(NONE, "next(1)", "next(-1)", "next(4)", "next(MIN)", "next(MAX)");
        });
        s.says("NEXT of a PAYER: the price (1 .. 30) by which COINS of its PURSE behind it are fewest (of several"
                + " the least; -5: none).", x -> {
            x.is(0, "payer(0, 0)");
            x.purse(0, 1, 0, 0, 0, 0, 0);
            x.is(1, "next(0)");
            x.purse(0, 0, 0, 0, 1, 1, 0);
            x.is(30, "next(0)");
            // 31 would leave none; 11, 21 and 30 leave one
            x.purse(0, 1, 0, 0, 1, 1, 0);
            x.is(11, "next(0)");
            x.purse(0, 0, 0, 0, 0, 0, 1);
            x.till(1, 2, 1, 1, 0, 0);
            x.is(30, "next(0)");
            x.is(1, "till(0, 0)");
            x.is(50, "would(0, 31, 0)");
            x.is(NOBODY, "next(0)");
        });
    }

    private void shortOf(Sentences s) {
        s.promise(18);
        s.says("SHORT; -5.", x -> {
            x.is(0, "payer(0, 0)");
            x.still(NOBODY, "shortOf(0)");
            x.is(0, "purse(0, 1, 1)");
            x.still(NOBODY, "shortOf(0)");
            x.is(9, "till(0, 0)");
            x.still(1, "shortOf(0)");
        });
        s.says("NONE.", x -> {
            x.still(NONE, "shortOf(0)", "shortOf(-1)");
            x.is(0, "payer(0, 0)");
            x.still(NONE, "shortOf(1)", "shortOf(-1)", "shortOf(4)", "shortOf(MIN)", "shortOf(MAX)");
        });
        s.says("SHORT of a PAYER: the least price (1 .. 60) that it can not pay, though what its PURSE is worth"
                + " is as much or more (-5: none).", x -> {
            x.is(0, "payer(0, 0)", "purse(0, 0, 2)");
            x.is(NOBODY, "shortOf(0)");
            x.is(2, "purse(0, 0, 3)");
            x.is(3, "shortOf(0)");
            x.is(3, "purse(0, 0, 4)", "shortOf(0)");
            // worth 60, of which 59 can be handed over; then worth 59
            x.purse(0, 3, 1, 1, 0, 0, 1);
            x.is(60, "shortOf(0)");
            x.is(3, "purse(0, 0, 2)");
            x.is(NOBODY, "shortOf(0)");
            // worth 65, of which 60 can be handed over
            x.purse(0, 0, 0, 3, 0, 0, 1);
            x.is(NOBODY, "would(0, 61, 0)", "shortOf(0)");
            x.is(1, "payer(3, 5)");
            x.is(0, "purse(1, 5, 1)");
            x.is(1, "shortOf(1)");
        });
    }

    private void more(Sentences s) {
        s.promise(19);
        s.says("MORE of a PAYER, a price and a SORT: WEIGHT of its PURSE behind its payment, were COUNTS of that"
                + " SORT in THE TILL 1 more (99 at most), less that as they are (may be below 0; 0, if it can not"
                + " pay one way or the other).", x -> {
            x.is(0, "payer(0, 0)");
            x.purse(0, 1, 1, 0, 0, 0, 0);
            x.is(9, "till(0, 97)");
            x.still(0, "more(0, 1, 0)");
            x.is(97, "till(0, 98)");
            x.still(4 - 3, "more(0, 1, 0)");
            x.is(98, "till(0, 99)");
            x.is(4, "would(0, 1, 2)");
            x.still(0, "more(0, 1, 0)");
            x.is(99, "told(10)");
            x.purse(0, 0, 0, 0, 0, 0, 1);
            x.till(9, 9, 9, 9, 0, 9);
            x.still(6 - 5 - 5, "more(0, 30, 4)");
            x.still(0, "more(0, 30, 3)", "more(0, 30, 5)");
        });
        s.says("were COUNTS of that SORT in THE TILL 1 more", x -> {
            // with a 20 in the till it keeps its own
            x.is(0, "payer(0, 0)");
            x.town(0, "keep 1 s=4&t>0");
            x.purse(0, 0, 0, 0, 0, 1, 1);
            x.till(9, 9, 9, 9, 0, 9);
            x.still(6 + 6 + 5 - 7, "more(0, 20, 4)");
            x.still(0, "more(0, 20, 3)");
        });
        s.says("0, if it can not pay one way or the other", x -> {
            x.is(0, "payer(0, 0)");
            x.still(0, "more(0, 1, 0)", "more(0, 199, 5)");
            x.is(0, "purse(0, 1, 1)");
            x.till(0, 0, 0, 0, 0, 0);
            x.is(NOBODY, "would(0, 1, 0)");
            x.still(0, "more(0, 1, 0)");
            x.is(1, "purse(0, 1, 0)");
            x.is(0, "purse(0, 5, 1)");
            x.till(0, 9, 0, 0, 9, 9);
            x.is(6 + 3 * 3, "would(0, 24, 2)");
            x.still(0, "more(0, 24, 2)");
        });
        s.says("-100001: NONE;", x -> {
            x.still(-100001, "more(0, 1, 0)", "more(-1, 1, 0)", "more(0, 0, 0)");
            x.is(0, "payer(0, 0)");
            x.still(-100001, "more(1, 1, 0)", "more(-1, 1, 0)", "more(0, 1, -1)", "more(0, 1, 6)", "more(0, 0, 6)",
                    "more(1, 200, 0)", "more(0, 1, MIN)", "more(0, 1, MAX)");
            x.is(0, "more(0, 1, 0)", "more(0, 1, 5)");
        });
        s.says("MORE. -100001: NONE; -100002: BAD.", x -> {
            x.still(-100001, "more(0, 0, 0)");
            x.is(0, "payer(0, 0)");
            x.still(-100002, "more(0, 0, 0)", "more(0, 200, 5)", "more(0, -1, 0)", "more(0, MIN, 0)",
                    "more(0, MAX, 0)");
            x.is(0, "more(0, 1, 0)", "more(0, 199, 0)");
        });
    }

    private void heaviest(Sentences s) {
        s.promise(20);
        s.says("HEAVIEST.", x -> {
            x.is(0, "payer(0, 0)");
            x.still(0, "heaviest(0, 1)", "heaviest(0, 8)");
            x.is(0, "purse(0, 5, 1)");
            x.still(6 + 6 + 3 + 2, "heaviest(0, 1)");
        });
        s.says("NONE", x -> {
            x.still(NONE, "heaviest(0, 1)", "heaviest(0, 0)", "heaviest(-1, 9)");
            x.is(0, "payer(0, 0)");
            x.still(NONE, "heaviest(1, 1)", "heaviest(-1, 1)", "heaviest(4, 9)", "heaviest(MIN, 1)",
                    "heaviest(MAX, 1)");
        });
        s.says("BAD: n.", x -> {
            x.is(0, "payer(0, 0)");
            x.still(BAD, "heaviest(0, 0)", "heaviest(0, 9)", "heaviest(0, -1)", "heaviest(0, MIN)",
                    "heaviest(0, MAX)");
            x.is(0, "heaviest(0, 1)", "heaviest(0, 8)");
        });
        s.says("HEAVIEST of a PAYER and n (1 .. 8): if it pays the prices 7, 14, 21 and so on, n of them, one"
                + " behind the other (those that it can not are passed over): the greatest WEIGHT of its PURSE"
                + " ahead of all, or behind any.", x -> {
            // of 7 to 56 the till lets 56 alone be paid, and gives back two 2
            x.is(0, "payer(0, 0)");
            x.purse(0, 0, 0, 0, 1, 0, 1);
            x.till(0, 2, 0, 0, 0, 0);
            x.is(5 + 7, "heaviest(0, 1)", "heaviest(0, 8)");
            x.town(0, "heft 9 s=1");
            x.is(0, "heaviest(0, 1)", "heaviest(0, 7)");
            x.is(18, "heaviest(0, 8)");
            // 7 by 10: 2 and 1 come back; by 14 they are handed over again
            x.till(1, 1, 0, 0, 0, 0);
            x.purse(0, 1, 0, 0, 2, 0, 0);
            x.is(9, "heaviest(0, 1)", "heaviest(0, 2)", "heaviest(0, 8)");
            // at PAID 0, which passing over does not change, it hands over no 10
            x.is(1, "payer(6, 0)");
            x.is(0, "row(1, 0, 3)", "purse(1, 3, 1)", "heaviest(1, 1)", "heaviest(1, 8)", "row(1, 1, 3)");
            x.is(3, "row(1, 0, 0)");
            x.is(9, "heaviest(1, 1)");
        });
    }
}
