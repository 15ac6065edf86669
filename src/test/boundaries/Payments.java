/** Promises 10 to 13: HANDS, what the till gives back, what each KIND hands over, what is asked of payments. */
final class Payments extends Group {
    void sayAll(Sentences s) {
        pay(s);
        hands(s);
        tillGivesBack(s);
        notAbove99(s);
        kinds(s);
        kindsThatThink(s);
        kindsThatBar(s);
        would(s);
        least(s);
        exactly(s);
    }

    private void pay(Sentences s) {
        s.promise(10);
        s.says("A payment of a price (1 .. 199): COINS handed over.", x -> {
            x.is(0, "payer(0, 0)");
            x.purse(0, 9, 9, 9, 9, 9, 9);
            x.still(BAD, "pay(0, 0)", "pay(0, 200)", "pay(0, MIN)", "pay(0, MAX)", "pay(0, -1)");
            x.is(1, "pay(0, 1)");
            x.still(STATE, "pay(0, 199)", "pay(0, 177)");
            x.is(12, "pay(0, 176)");
            x.inPurse(0, 6, 7, 7, 7, 7, 7);
            x.inTill(12, 11, 11, 11, 11, 11);
        });
        s.says("NONE", x -> {
            x.still(NONE, "pay(0, 1)", "pay(0, 0)", "pay(-1, 1)");
            x.is(0, "payer(0, 0)", "purse(0, 0, 1)");
            x.still(NONE, "pay(1, 1)", "pay(-1, 200)", "pay(4, 1)", "pay(MIN, 1)", "pay(MAX, 1)");
            x.is(1, "pay(0, 1)");
        });
        s.says("BAD", x -> {
            x.is(0, "payer(0, 0)");
            x.still(BAD, "pay(0, 0)", "pay(0, 200)");
            x.still(STATE, "pay(0, 1)", "pay(0, 199)");
        });
        s.says("STATE: it can not.", x -> {
            x.is(0, "payer(0, 0)");
            x.still(STATE, "pay(0, 1)");
            x.is(0, "purse(0, 0, 1)");
            x.still(STATE, "pay(0, 2)", "pay(0, 199)");
            x.is(1, "pay(0, 1)");
            x.still(STATE, "pay(0, 1)");
        });
        s.says("If no HAND PAYS, nothing is done.", x -> {
            rich(x);
            x.still(STATE, "pay(0, 199)", "pay(1, 177)", "pay(2, 120)");
            x.till(0, 0, 0, 0, 0, 0);
            x.still(STATE, "pay(2, 9)");
            x.is(1, "of(0, 2)");
            x.is(0, "of(1, 2)", "of(2, 2)");
        });
    }

    private void hands(Sentences s) {
        s.promise(10);
        s.says("A HAND: how many of each SORT a PAYER hands over: MOST of each at most", x -> {
            x.is(0, "payer(0, 0)");
            x.purse(0, 9, 9, 9, 9, 9, 9);
            x.hand(0, 176, 2, 2, 2, 2, 2, 2);
            x.is(NOBODY, "would(0, 177, 0)");
            x.town(0, "most 1");
            x.hand(0, 88, 1, 1, 1, 1, 1, 1);
            x.is(NOBODY, "would(0, 89, 0)");
            x.town(1, "most 0");
            x.is(NOBODY, "would(0, 1, 0)", "would(0, 88, 0)");
        });
        s.says("and no more than are in its PURSE less KEPT", x -> {
            x.is(0, "payer(0, 0)", "purse(0, 0, 1)");
            x.is(1, "would(0, 1, 0)");
            x.is(NOBODY, "would(0, 2, 0)");
            x.town(0, "keep 3 s=0");
            x.is(1, "purse(0, 0, 2)");
            x.is(NOBODY, "would(0, 1, 0)");
            x.is(2, "purse(0, 0, 3)");
            x.is(NOBODY, "would(0, 1, 0)");
            x.is(3, "purse(0, 0, 4)");
            x.is(1, "would(0, 1, 0)");
            x.is(NOBODY, "would(0, 2, 0)");
            x.is(4, "purse(0, 0, 5)");
            x.is(2, "would(0, 2, 0)");
            x.is(NOBODY, "would(0, 3, 0)");
            x.is(5, "purse(0, 0, 1)");
            x.is(0, "purse(0, 1, 1)");
            x.is(2, "would(0, 2, 0)", "would(0, 1, 0)");
        });
        s.says("its SUM; its COINS (how many). It PAYS a price, if SUM is the price or more", x -> {
            x.is(0, "payer(0, 0)", "purse(0, 2, 1)");
            x.is(5, "would(0, 5, 0)", "would(0, 4, 0)", "would(0, 1, 0)");
            x.still(STATE, "pay(0, 6)");
            x.is(1, "pay(0, 5)");
            x.purse(0, 0, 0, 0, 2, 2, 0);
            x.is(60, "would(0, 60, 0)", "would(0, 59, 0)", "would(0, 51, 0)");
            x.is(NOBODY, "would(0, 61, 0)");
            x.is(50, "would(0, 50, 0)", "would(0, 41, 0)");
            x.is(4, "pay(0, 51)");
        });
    }

    private void tillGivesBack(Sentences s) {
        s.promise(10);
        s.says("and THE TILL (with the HAND in it) gives back SUM less the price, all of it", x -> {
            x.is(0, "payer(0, 0)", "purse(0, 2, 1)");
            x.till(0, 0, 0, 0, 0, 0);
            x.is(5, "would(0, 5, 0)");
            x.is(NOBODY, "would(0, 4, 0)");
            x.till(1, 1, 0, 0, 0, 0);
            x.is(NOBODY, "would(0, 1, 0)");
            x.back(0, 2, 1, 1, 0, 0, 0, 0);
            x.is(1, "till(0, 2)");
            x.back(0, 1, 2, 1, 0, 0, 0, 0);
            // the 5 that is handed over goes back first, and 1 is left, which the till has not
            x.purse(0, 0, 0, 1, 0, 1, 0);
            x.till(0, 3, 0, 0, 0, 0);
            x.still(STATE, "pay(0, 19)");
            x.back(0, 14, 0, 3, 0, 0, 0, 0);
            x.is(0, "till(0, 1)");
            x.back(0, 19, 1, 0, 0, 0, 0, 0);
        });
        s.says("greatest SORT first, of each as many as there are, and as are worth no more than what is"
                + " left to give", x -> {
            x.is(0, "payer(0, 0)", "purse(0, 3, 1)");
            x.back(0, 10, 0, 0, 0, 0, 0, 0);
            x.back(0, 9, 1, 0, 0, 0, 0, 0);
            x.back(0, 6, 0, 2, 0, 0, 0, 0);
            x.back(0, 5, 0, 0, 1, 0, 0, 0);
            x.back(0, 4, 1, 0, 1, 0, 0, 0);
            x.till(0, 9, 1, 0, 0, 0);
            x.still(STATE, "pay(0, 4)");
            x.till(0, 9, 0, 0, 0, 0);
            x.back(0, 4, 0, 3, 0, 0, 0, 0);
            x.till(4, 1, 0, 0, 0, 0);
            x.back(0, 4, 4, 1, 0, 0, 0, 0);
            x.is(4, "till(0, 3)");
            x.still(STATE, "pay(0, 4)");
            x.purse(0, 0, 0, 0, 0, 0, 1);
            x.till(9, 9, 9, 9, 1, 9);
            x.back(0, 1, 0, 2, 1, 2, 1, 0);
            x.till(9, 9, 9, 9, 9, 9);
            x.back(0, 1, 0, 2, 1, 0, 2, 0);
        });
    }

    private void notAbove99(Sentences s) {
        s.promise(10);
        s.says("and if no COUNTS are above 99 behind that.", x -> {
            x.is(0, "payer(0, 0)", "purse(0, 5, 2)");
            x.is(9, "till(5, 99)");
            x.still(STATE, "pay(0, 50)", "pay(0, 1)");
            x.is(99, "till(5, 98)");
            x.still(STATE, "pay(0, 100)");
            x.is(1, "pay(0, 50)");
            x.is(99, "told(15)", "till(5, 97)");
            x.is(1, "purse(0, 5, 2)");
            x.is(2, "pay(0, 100)");
            x.is(99, "told(15)");
        });
        s.says("and if no COUNTS are above 99 behind that.", x -> {
            x.is(0, "payer(0, 0)");
            x.till(9, 0, 0, 0, 9, 9);
            x.purse(0, 99, 0, 0, 0, 0, 1);
            x.still(STATE, "pay(0, 49)");
            x.is(99, "purse(0, 0, 98)");
            x.is(1, "pay(0, 49)");
            x.inPurse(0, 99, 0, 0, 0, 0, 0);
            // from 99 of them the till gives one back, and from 99 of them one is handed over
            x.purse(0, 0, 1, 0, 0, 0, 0);
            x.is(8, "till(0, 99)");
            x.is(1, "pay(0, 1)");
            x.is(98, "told(10)");
            x.is(1, "purse(0, 0, 99)");
            x.is(1, "pay(0, 1)");
            x.is(98, "of(0, 10)");
            x.is(99, "told(10)");
        });
    }

    private void kinds(Sentences s) {
        s.promise(10);
        s.says("PAYER: with the least SUM, of these with the fewest COINS.", x -> {
            x.is(0, "payer(0, 9)");
            x.purse(0, 2, 1, 0, 2, 1, 0);
            x.hand(0, 2, 0, 1, 0, 0, 0, 0);
            x.hand(0, 20, 0, 0, 0, 0, 1, 0);
            x.purse(0, 0, 0, 2, 0, 1, 0);
            x.hand(0, 8, 0, 0, 2, 0, 0, 0);
            x.hand(0, 11, 0, 0, 0, 0, 1, 0);
        });
        s.says("EXACT: as PAYER; but if that SUM is the price, with the most COINS of those with this SUM.", x -> {
            x.is(0, "payer(1, 9)");
            x.purse(0, 0, 0, 2, 1, 1, 0);
            x.hand(0, 9, 0, 0, 0, 1, 0, 0);
            x.hand(0, 10, 0, 0, 2, 0, 0, 0);
            x.hand(0, 11, 0, 0, 1, 1, 0, 0);
            x.hand(0, 19, 0, 0, 0, 0, 1, 0);
            x.hand(0, 20, 0, 0, 2, 1, 0, 0);
        });
        s.says("ROUGH: with the fewest COINS, of these with the least SUM.", x -> {
            x.is(0, "payer(2, 9)");
            x.purse(0, 2, 1, 1, 1, 1, 1);
            x.hand(0, 2, 0, 1, 0, 0, 0, 0);
            x.hand(0, 3, 0, 0, 1, 0, 0, 0);
            x.hand(0, 50, 0, 0, 0, 0, 0, 1);
            x.hand(0, 51, 1, 0, 0, 0, 0, 1);
            x.hand(0, 71, 1, 0, 0, 0, 1, 1);
        });
        s.says("WILD: with the fewest COINS, of these with the greatest SUM.", x -> {
            x.is(0, "payer(5, 9)");
            x.purse(0, 2, 1, 1, 1, 1, 1);
            x.hand(0, 2, 0, 0, 0, 0, 0, 1);
            x.hand(0, 50, 0, 0, 0, 0, 0, 1);
            x.hand(0, 51, 0, 0, 0, 0, 1, 1);
            x.hand(0, 71, 0, 0, 0, 1, 1, 1);
            // 48, 18, 8 and 3 can not come back
            x.is(9, "till(0, 0)");
            x.hand(0, 2, 0, 1, 0, 0, 0, 0);
        });
    }

    private void kindsThatThink(Sentences s) {
        s.promise(10);
        s.says("LIGHT: with the least WEIGHT of its PURSE behind it (behind BACK).", x -> {
            x.is(0, "payer(4, 9)");
            x.is(1, "payer(4, 0)");
            x.purse(0, 2, 1, 0, 0, 0, 0);
            x.purse(1, 0, 0, 2, 1, 0, 0);
            x.hand(0, 2, 2, 0, 0, 0, 0, 0);
            x.hand(1, 10, 0, 0, 2, 0, 0, 0);
            x.town(0, "heft 9 s=1;heft 4 s=2;heft 9 s=3");
            x.hand(0, 2, 0, 1, 0, 0, 0, 0);
            x.hand(1, 10, 0, 0, 0, 1, 0, 0);
            // one 50 is lighter than what it is worth
            x.purse(1, 1, 0, 0, 1, 2, 0);
            x.town(1, "heft 1 s<6");
            x.hand(1, 1, 1, 0, 0, 1, 2, 0);
            x.back(1, 1, 0, 0, 0, 0, 0, 1);
            // what comes back is heavier than what is handed over
            x.purse(0, 1, 0, 0, 1, 0, 1);
            x.town(2, "heft 1 w>2;heft 99 s=4");
            x.hand(0, 10, 0, 0, 0, 1, 0, 0);
            x.hand(0, 11, 1, 0, 0, 1, 0, 0);
            x.hand(0, 12, 0, 0, 0, 0, 0, 1);
        });
        s.says("Of all HANDS that PAY a price a PAYER hands over (of several the first as rows: the fewest of"
                + " SORT 0, then of SORT 1, and so on) that:", x -> {
            x.is(0, "payer(4, 0)", "purse(0, 5, 2)");
            x.hand(0, 50, 0, 0, 0, 0, 0, 1);
            x.town(0, "heft 0 s=0");
            x.purse(0, 2, 2, 2, 2, 2, 2);
            x.hand(0, 12, 0, 0, 0, 0, 0, 1);
            x.purse(0, 2, 2, 2, 2, 0, 0);
            x.hand(0, 12, 0, 0, 0, 2, 0, 0);
            x.purse(0, 2, 2, 2, 0, 0, 0);
            x.hand(0, 12, 0, 1, 2, 0, 0, 0);
            x.purse(0, 2, 2, 1, 0, 0, 0);
            x.hand(0, 10, 1, 2, 1, 0, 0, 0);
            x.hand(0, 9, 0, 2, 1, 0, 0, 0);
        });
    }

    private void kindsThatBar(Sentences s) {
        s.promise(10);
        s.says("KEEPER: as PAYER, but no coin of SORT v modulo 6.", x -> {
            x.is(0, "payer(3, 0)");
            x.is(1, "payer(3, 5)");
            x.is(2, "payer(3, 6)");
            x.is(3, "payer(3, 9)");
            for (int p = 0; p < 4; p++) {
                x.purse(p, 9, 2, 2, 2, 1, 1);
            }
            x.hand(0, 1, 0, 1, 0, 0, 0, 0);
            x.hand(2, 1, 0, 1, 0, 0, 0, 0);
            x.hand(1, 50, 0, 0, 2, 2, 1, 0);
            x.is(NOBODY, "would(1, 57, 0)");
            x.hand(3, 10, 0, 0, 2, 0, 0, 0);
            x.hand(3, 50, 0, 0, 0, 0, 0, 1);
        });
        s.says("TOLD: as PAYER, but no coin of the SORT that its ROW (four SORTS; 0 at first) tells at"
                + " PAID modulo 4.", x -> {
            x.is(0, "payer(6, 3)");
            x.purse(0, 9, 9, 9, 9, 9, 9);
            x.hand(0, 1, 0, 1, 0, 0, 0, 0);
            x.is(0, "row(0, 0, 1)", "row(0, 1, 2)", "row(0, 2, 3)", "row(0, 3, 4)");
            int[][] hands = {{2, 0, 0, 0, 0, 0}, {1, 2, 0, 0, 0, 0}, {0, 0, 2, 0, 0, 0}, {0, 0, 0, 2, 0, 0}};
            int[] prices = {2, 5, 10, 20};
            for (int paid = 0; paid < 6; paid++) {
                x.is(paid, "of(0, 2)");
                x.hand(0, prices[paid % 4], hands[paid % 4]);
                x.is(1, "pay(0, 1)");
            }
            // v modulo 6 bars nothing of a TOLD one
            x.hand(0, 20, 0, 0, 0, 0, 1, 0);
            x.hand(0, 30, 0, 0, 2, 0, 1, 0);
        });
    }

    private void would(Sentences s) {
        s.promise(11);
        s.says("WOULD: what 0 SUM, 1 COINS, 2 WEIGHT, 10 and s handed over, 20 and s BACK of SORT s; -5.", x -> {
            x.is(0, "payer(2, 0)");
            x.purse(0, 0, 0, 0, 0, 1, 1);
            x.still(70, "would(0, 51, 0)");
            x.still(4, "would(0, 51, 1)");
            x.still(2 * 3 + 4 + 5, "would(0, 51, 2)");
            x.still(0, "would(0, 51, 10)", "would(0, 51, 20)", "would(0, 51, 25)");
            x.still(1, "would(0, 51, 15)");
            x.hand(0, 51, 0, 0, 0, 0, 1, 1);
            x.back(0, 51, 0, 2, 1, 1, 0, 0);
            x.still(NONE, "would(0, 51, MIN)", "would(0, 51, -1)", "would(0, 51, 3)", "would(0, 51, 9)",
                    "would(0, 51, 16)", "would(0, 51, 19)", "would(0, 51, 26)", "would(0, 51, MAX)");
        });
        s.says("WOULD of a PAYER and a price (1 .. 199): how many of a SORT it hands over, how many it gets BACK;"
                + " SUM; COINS of its PURSE behind it; WEIGHT of that; -5 each, if no HAND PAYS.", x -> {
            x.is(0, "payer(0, 0)");
            x.still(NOBODY, "would(0, 1, 0)", "would(0, 1, 1)", "would(0, 1, 2)", "would(0, 1, 10)",
                    "would(0, 1, 15)", "would(0, 1, 20)", "would(0, 199, 25)");
            x.purse(0, 2, 2, 2, 2, 2, 2);
            x.is(1, "would(0, 1, 0)");
            x.is(11, "would(0, 1, 1)");
            x.is(176, "would(0, 176, 0)");
            x.is(0, "would(0, 176, 1)", "would(0, 176, 2)", "would(0, 176, 20)");
            x.is(NOBODY, "would(0, 177, 0)", "would(0, 177, 1)", "would(0, 199, 0)", "would(0, 199, 2)");
        });
        s.says("What is given back is BACK.", x -> {
            x.is(0, "payer(0, 0)", "purse(0, 5, 1)");
            x.back(0, 50, 0, 0, 0, 0, 0, 0);
            x.back(0, 49, 1, 0, 0, 0, 0, 0);
            x.back(0, 12, 1, 1, 1, 1, 1, 0);
            x.is(1, "pay(0, 12)");
            x.inPurse(0, 1, 1, 1, 1, 1, 0);
        });
        s.says("NONE", x -> {
            x.still(NONE, "would(0, 1, 0)", "would(0, 0, 0)");
            x.is(0, "payer(0, 0)");
            x.still(NONE, "would(-1, 1, 0)", "would(1, 1, 0)", "would(1, 200, 0)", "would(0, 200, 3)",
                    "would(0, 0, 26)");
        });
        s.says("BAD.", x -> {
            x.is(0, "payer(0, 0)", "purse(0, 0, 9)");
            x.still(BAD, "would(0, 0, 0)", "would(0, 200, 0)", "would(0, 0, 15)", "would(0, 200, 25)",
                    "would(0, MIN, 2)", "would(0, MAX, 2)", "would(0, -1, 1)");
            x.is(1, "would(0, 1, 0)");
            x.is(NOBODY, "would(0, 199, 0)");
        });
        s.says("All that follows is asked, goes on from how all is, and changes nothing.", x -> {
            rich(x);
            x.changesNothing("would(0, 13, 0)", "would(2, 60, 25)", "least(1, 9, 0)", "least(2, 9, 1)",
                    "exactly(1)", "behind(0, 0)", "behind(1, 2)", "who()", "next(2)", "shortOf(0)",
                    "more(1, 20, 3)", "heaviest(0, 8)", "fits()", "odds(1, 0)", "odds(2, 1)", "mean(20, 0)",
                    "looked()", "judge(0, 0)", "taken(0, 3)", "trace(0)", "read(1, 1)", "of(0, 20)", "told(20)",
                    "count(6)");
            x.is(1, "of(0, 2)");
            x.is(50, "would(1, 22, 0)");
            x.is(1, "pay(1, 22)");
        });
    }

    private void least(Sentences s) {
        s.promise(12);
        s.says("LIGHTEST (what 0), FEWEST (1); -5.", x -> {
            x.is(0, "payer(0, 0)");
            x.purse(0, 2, 2, 2, 2, 2, 2);
            x.still(0, "least(0, 176, 0)", "least(0, 176, 1)");
            x.still(NOBODY, "least(0, 177, 0)", "least(0, 177, 1)", "least(0, 199, 0)");
            x.still(NONE, "least(0, 1, -1)", "least(0, 1, 2)", "least(0, 1, MIN)", "least(0, 1, MAX)");
            x.purse(0, 1, 0, 0, 0, 0, 0);
            x.still(0, "least(0, 1, 0)", "least(0, 1, 1)");
            x.still(NOBODY, "least(0, 2, 0)", "least(0, 2, 1)");
        });
        s.says("LIGHTEST of a PAYER and a price: the least WEIGHT of its PURSE behind a payment by any HAND that"
                + " PAYS (a KEEPER, a TOLD one may hand over any SORT here; -5: none PAYS).", x -> {
            x.is(0, "payer(3, 4)");
            x.is(1, "payer(6, 0)");
            x.purse(0, 0, 0, 0, 0, 1, 1);
            x.is(6 + 6 + 5, "would(0, 20, 2)");
            x.still(7, "least(0, 20, 0)");
            x.is(0, "purse(1, 0, 1)");
            x.is(NOBODY, "would(1, 1, 2)");
            x.still(0, "least(1, 1, 0)");
            x.still(NOBODY, "least(1, 2, 0)");
            x.town(0, "keep 1 s=0");
            x.still(NOBODY, "least(1, 1, 0)");
            x.town(1, "heft 9 s=5;heft 1 s<5");
            x.still(4, "least(0, 19, 0)");
        });
        s.says("FEWEST likewise: the least COINS of its PURSE behind it.", x -> {
            x.is(0, "payer(3, 4)");
            x.is(1, "payer(6, 0)");
            x.purse(0, 0, 0, 0, 0, 1, 1);
            x.is(3, "would(0, 20, 1)");
            x.still(1, "least(0, 20, 1)");
            x.is(0, "purse(1, 0, 1)");
            x.is(NOBODY, "would(1, 1, 1)");
            x.still(0, "least(1, 1, 1)");
            x.still(NOBODY, "least(1, 2, 1)");
            x.purse(0, 2, 1, 0, 0, 0, 0);
            x.still(1, "least(0, 2, 1)");
        });
        s.says("NONE", x -> {
            x.still(NONE, "least(0, 1, 0)", "least(0, 0, 0)");
            x.is(0, "payer(0, 0)");
            x.still(NONE, "least(-1, 1, 0)", "least(1, 1, 0)", "least(1, 0, 0)", "least(0, 0, 2)",
                    "least(0, 200, -1)");
        });
        s.says("BAD.", x -> {
            x.is(0, "payer(0, 0)", "purse(0, 0, 1)");
            x.still(BAD, "least(0, 0, 0)", "least(0, 200, 1)", "least(0, -1, 0)", "least(0, MIN, 0)",
                    "least(0, MAX, 1)");
            x.is(0, "least(0, 1, 0)");
            x.is(NOBODY, "least(0, 199, 0)");
        });
    }

    private void exactly(Sentences s) {
        s.promise(13);
        s.says("EXACTLY.", x -> {
            x.is(0, "payer(0, 0)");
            x.still(0, "exactly(0)");
            x.purse(0, 2, 2, 2, 2, 2, 2);
            x.still(60, "exactly(0)");
        });
        s.says("EXACTLY of a PAYER: how many prices 1 .. 60 are the SUM of some HAND that PAYS them"
                + " (any SORT, too).", x -> {
            x.is(0, "payer(3, 0)", "purse(0, 0, 1)");
            x.still(1, "exactly(0)");
            // 10, 20 and so on, 60; then 1, 11 and so on, 51 as well, 61 no more
            x.purse(0, 0, 0, 0, 2, 2, 0);
            x.still(6, "exactly(0)");
            x.is(0, "purse(0, 0, 1)");
            x.still(12, "exactly(0)");
            // by 50 and 10 60, by 50 and 10 and 1 and 2 61 and more
            x.purse(0, 1, 1, 0, 1, 0, 1);
            x.still(3 + 1 + 3 + 1 + 3 + 1, "exactly(0)");
            x.purse(0, 3, 0, 0, 0, 0, 0);
            x.still(2, "exactly(0)");
            x.is(9, "till(0, 98)");
            x.still(1, "exactly(0)");
            x.is(98, "till(0, 99)");
            x.still(0, "exactly(0)");
            x.is(1, "payer(6, 0)");
            x.is(0, "purse(1, 1, 1)", "row(1, 0, 1)");
            x.still(1, "exactly(1)");
            x.town(0, "keep 1 p=1");
            x.still(0, "exactly(1)");
        });
        s.says("NONE.", x -> {
            x.still(NONE, "exactly(0)", "exactly(-1)");
            x.is(0, "payer(0, 0)");
            x.still(NONE, "exactly(1)", "exactly(-1)", "exactly(4)", "exactly(MIN)", "exactly(MAX)");
        });
    }
}
