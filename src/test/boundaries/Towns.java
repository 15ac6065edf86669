/** Promises 7 to 9: THE TEXT, TOWNS, what they tell. */
final class Towns extends Group {
    private static final String TEN = "most 1;most 1;most 1;most 1;most 1;most 1;most 1;most 1;most 1;most 1";

    void sayAll(Sentences s) {
        feed(s);
        town(s);
        clauses(s);
        grammar(s);
        faults(s);
        told(s);
        hefts(s);
        tests(s);
    }

    private void feed(Sentences s) {
        s.promise(7);
        s.says("A sign (0 .. 127) comes behind THE TEXT's: how many it has.", x -> {
            x.is(1, "feed(0)");
            x.is(2, "feed(127)");
            x.is(2, "count(5)");
        });
        s.says("BAD", x -> {
            x.still(BAD, "feed(-1)", "feed(128)", "feed(MIN)", "feed(MAX)", "feed(256)");
            x.is(0, "count(5)");
            x.feed("most 0");
            x.still(BAD, "feed(-1)", "feed(128)");
            x.is(0, "town()");
        });
        s.says("FULL.", x -> {
            x.feed("x".repeat(99));
            x.is(100, "feed(59)");
            x.still(FULL, "feed(59)", "feed(0)", "feed(127)");
            x.still(BAD, "feed(-1)", "feed(128)");
            x.is(100, "count(5)");
            x.is(-10, "town()");
            x.is(1, "feed(59)");
        });
    }

    private void town(Sentences s) {
        s.promise(8);
        s.says("THE TEXT, which is empty then, is a TOWN, and holds: its number.", x -> {
            x.town(0, "most 1");
            x.is(0, "count(5)");
            x.is(1, "count(1)", "told(0)", "feed(109)");
            x.feed("ost 0");
            x.is(1, "town()");
            x.is(0, "count(5)", "told(0)");
            x.is(2, "count(1)");
        });
        s.says("FULL: there are 6 (THE TEXT stays)", x -> {
            for (int t = 0; t < 5; t++) {
                x.town(t, "most 1");
            }
            x.feed("?");
            x.is(-10, "town()");
            x.town(5, "most 0");
            x.is(6, "count(1)");
            x.still(FULL, "town()");
            x.feed("most 1");
            x.still(FULL, "town()");
            x.is(6, "count(5)", "count(1)");
            x.is(7, "feed(59)");
            x.still(FULL, "town()");
            x.is(0, "told(0)");
        });
        s.says("The newest TOWN holds (6 at most); without one there are no CLAUSES.", x -> {
            x.is(0, "payer(0, 0)");
            x.is(2, "told(0)");
            x.hefts(2, 3, 4, 5, 6, 7);
            x.kept(0, 0, 0, 0, 0, 0, 0);
            for (int t = 0; t < 6; t++) {
                x.town(t, "heft 1" + t + " s=0;keep 2" + t + " s=5");
                x.is(10 + t, "told(20)");
                x.is(20 + t, "of(0, 25)");
            }
            x.feed("most 1");
            x.still(FULL, "town()");
            x.is(15, "told(20)");
            x.is(25, "of(0, 25)");
        });
        s.says("-10 less the FAULT (the one that held holds).", x -> {
            x.feed("!");
            x.is(-10, "town()");
            x.is(2, "told(0)", "told(20)");
            x.town(0, "most 1");
            x.feed("most 0;");
            x.is(-17, "town()");
            x.is(1, "told(0)", "count(1)");
            x.is(0, "count(5)");
            x.faultAt(0, "", "!", "\0", "\u007f");
            // nothing is left behind of those that had a FAULT
            for (int i = 0; i < 3; i++) {
                x.feed("keep 1 " + "s=5|".repeat(23));
                x.is(-10 - 99, "town()");
            }
            x.town(1, "heft 7 s=2|s=3");
            x.hefts(0, 0, 7, 7, 0, 0);
            // the last byte of a full TEXT, and its end
            x.faultAt(99, "heft 1 " + "s=1|".repeat(23) + "|");
            x.faultAt(100, "heft 1 " + "s=1|".repeat(23) + "s");
        });
        s.says("A TOWN is read from THE TEXT (bytes, 100 at most)", x -> {
            x.reads("heft 01 " + "s=1|".repeat(22) + "s=01");
            x.reads("heft 1 " + "s=1|".repeat(22) + "s=01");
            x.reads("most 0");
            x.feed("heft 01 " + "s=1|".repeat(22) + "s=01");
            x.still(FULL, "feed(59)");
            x.is(0, "town()");
            x.hefts(0, 1, 0, 0, 0, 0);
        });
    }

    private void clauses(Sentences s) {
        s.promise(8);
        s.says("CLAUSES, 1 to 10, with ; between", x -> {
            x.reads("most 1", "most 1;most 1", TEN.substring(7), TEN);
            x.faultAt(0, "", ";", ";most 1");
            x.faultAt(7, "most 1;", "most 1;;most 1", "most 1; most 1");
            x.faultAt(6, "most 1,most 1", "most 1 ;most 1", "most 1most 1");
            x.faultAt(63, TEN.substring(7) + ";");
            x.faultAt(69, TEN + ";", TEN + ";most 1", TEN + ";;");
            // the tenth is as the others
            x.is(0, "payer(0, 0)");
            x.town(0, TEN.substring(7) + ";heft 5 s=3");
            x.hefts(0, 0, 0, 5, 0, 0);
            x.kept(0, 0, 0, 0, 0, 0, 0);
            x.town(1, TEN.substring(7) + ";keep 5 s=3");
            x.kept(0, 0, 0, 0, 5, 0, 0);
            x.town(2, TEN.substring(7) + ";most 0");
            x.is(0, "told(0)");
        });
        s.says("heft n E; keep n E; most n", x -> {
            x.reads("heft 1 s=1", "keep 1 s=1", "most 1", "most 1;keep 1 s=1;heft 1 s=1");
            x.faultAt(6, "most 1 s=1", "heft 1", "keep 1", "heft 1;most 1");
            x.faultAt(0, "Heft 1 s=1", "teft 1 s=1", " most 1", "1");
            x.faultAt(1, "h", "k", "m", "kost 1", "mept 1");
            x.faultAt(3, "hef", "heff", "mos", "moss 1", "kee", "keet");
            x.faultAt(4, "heft", "keep", "most", "heftt 1", "keeps 1", "mosty 1");
        });
        s.says("(one blank ahead of each part behind the word; n 1 or 2 digits)", x -> {
            x.reads("heft 1 s=1", "keep 1 s=1", "most 1");
            x.faultAt(4, "heft1 s=1", "keep1 s=1", "most1", "most\t1");
            x.faultAt(5, "heft  1 s=1", "keep  1 s=1", "most  1", "heft ", "most ");
            x.faultAt(6, "heft 1s=1", "keep 1(s=1)", "most 1 ", "heft 1\ts=1");
            x.faultAt(7, "heft 1  s=1", "keep 1  s=1", "heft 1 ", "keep 12s=1");
            x.faultAt(8, "heft 1 s =1", "heft 1 ( s=1)", "keep 1 ! s=1");
            x.faultAt(9, "heft 1 s= 1");
            x.faultAt(10, "heft 1 s=1 ", "heft 1 s=1 ;most 1");
        });
        s.says("n 1 or 2 digits", x -> {
            x.reads("heft 0 s=1", "heft 00 s=1", "heft 99 s=1", "keep 0 s=1", "keep 99 s=1", "most 0", "most 99",
                    "most 09");
            x.faultAt(5, "heft x s=1", "keep -1 s=1", "most -1", "most /", "most :");
            x.faultAt(7, "heft 100 s=1", "keep 123 s=1", "most 100", "most 000", "heft 12");
            x.faultAt(6, "heft 1x s=1", "most 1/", "keep 1:");
            x.town(0, "heft 0 s=0;heft 1 s=1;heft 09 s=2;heft 10 s=3;heft 99 s=4");
            x.hefts(0, 1, 9, 10, 99, 0);
        });
    }

    private void grammar(Sentences s) {
        s.promise(8);
        s.says("E: T or T|E. T: F or F&T. F: !F, (E), or a TEST", x -> {
            x.town(0, "heft 1 s=0|s=1&s=2;heft 2 s=0&s=1|s=2;heft 4 !s=0&s<3;heft 8 !(s=0|s=1)");
            x.hefts(1, 4, 14, 8, 8, 8);
            x.town(1, "heft 1 s=0|s<0;heft 2 !s<0&s<1;heft 4 s<0|s=5;heft 8 s<0&s=5");
            x.hefts(3, 0, 0, 0, 0, 4);
            x.town(2, "heft 1 (s=0|s=1)&s=1;heft 2 !!s=3;heft 4 ((s=4));heft 8 s=5|s=5|s=5&s=0");
            x.hefts(0, 1, 0, 2, 4, 8);
            x.reads("heft 1 s=1&s=1|s=1&s=1", "heft 1 !(!s=1)", "heft 1 (s=1)|(s=1)&!s=1");
            x.faultAt(7, "heft 1 &s=1", "heft 1 |s=1", "heft 1 )", "heft 1 ;");
            x.faultAt(8, "heft 1 (", "heft 1 ()", "heft 1 !", "heft 1 !)", "heft 1 (&", "heft 1 !|");
            x.faultAt(10, "heft 1 s=1)", "heft 1 s=1(", "heft 1 s=1!s=1", "heft 1 s=1s=1", "heft 1 s=1=1");
            x.faultAt(11, "heft 1 s=1&", "heft 1 s=1|", "heft 1 s=1&&s=1", "heft 1 s=1||s=1", "heft 1 s=1&|",
                    "heft 1 s=1|;", "heft 1 (s=1", "heft 1 (s=1;most 1");
            x.faultAt(12, "heft 1 (s=1))");
        });
        s.says("a TEST: a letter, < or = or >, a number (1 or 2 digits)", x -> {
            x.reads("heft 1 s<1", "heft 1 w=0", "heft 1 t>99", "keep 1 p=00", "keep 1 k<7", "keep 1 d>6");
            x.faultAt(7, "heft 1 v=1", "heft 1 S=1", "heft 1 q=1", "heft 1 =1", "heft 1 1");
            x.faultAt(8, "heft 1 s", "heft 1 s1", "heft 1 s!1", "heft 1 ss=1", "heft 1 s;", "heft 1 s?1");
            x.faultAt(9, "heft 1 s=", "heft 1 s<=1", "heft 1 s==1", "heft 1 s>x", "heft 1 s=-1", "heft 1 s=;",
                    "heft 1 s=)");
            x.faultAt(11, "heft 1 s=100", "heft 1 s=000", "heft 1 s=123");
        });
        s.says("A ( or ! within 4 others is none.", x -> {
            x.reads("keep 1 ((((s=1))))", "keep 1 !!!!s=1", "keep 1 !(!(s=1))", "keep 1 (((!s=1)))",
                    "keep 1 !!((s=1))", "keep 1 ((((s=1))))&((((s=1))))", "keep 1 !!!!s=1|!!!!s=1",
                    "keep 1 ((((s=1)))&(((s=1))))", "keep 1 (!!!s=1&!!!s=1)");
            x.faultAt(11, "keep 1 (((((s=1)))))", "keep 1 !!!!!s=1", "keep 1 ((((!s=1))))", "keep 1 !!!!(s=1)",
                    "keep 1 !(!(!s=1))", "keep 1 (((((", "keep 1 !!!!!");
            x.faultAt(15, "keep 1 ((((s=1&(s=1)))))", "keep 1 ((((s=1|!s=1))))", "keep 1 !!((s=1&!s=1))");
            x.faultAt(10, "keep 1 (((");
            x.faultAt(14, "keep 1 ((((s=1");
            x.faultAt(17, "keep 1 ((((s=1)))");
            x.town(0, "heft 1 !!!!s=1;heft 2 !!!s=1;heft 4 !(!(s=1));heft 8 ((((s=1|s=2))))");
            x.hefts(2, 13, 10, 2, 2, 2);
        });
    }

    private void faults(Sentences s) {
        s.promise(8);
        s.says("The FAULT: the place of the first byte with which none begins so (the end of THE TEXT, if it"
                + " ends too early).", x -> {
            String whole = "heft 12 (!s=12&w<3);keep 1 t>9";
            x.reads(whole);
            for (int end = 0; end < whole.length(); end++) {
                if (whole.charAt(end) == ';') {
                    x.reads(whole.substring(0, end));
                } else {
                    x.faultAt(end, whole.substring(0, end));
                }
                // a byte with which no text goes on, whatever is ahead of it
                x.faultAt(end, whole.substring(0, end) + "\0");
                x.faultAt(end, whole.substring(0, end) + "\u007f" + whole.substring(end));
            }
            x.faultAt(30, whole + "?");
            x.faultAt(31, whole + "9a");
            // the first of several
            x.faultAt(1, "hxft x x=x");
            x.faultAt(5, "most x;most y");
        });
    }

    private void told(Sentences s) {
        s.promise(9);
        s.says("What 0 MOST, 10 and s COUNTS in THE TILL, 20 and s HEFT of SORT s.", x -> {
            x.till(1, 2, 3, 4, 5, 6);
            x.town(0, "heft 30 s=0;heft 40 s=5;most 1");
            x.still(1, "told(0)", "told(10)");
            x.still(6, "told(15)");
            x.still(30, "told(20)");
            x.still(40, "told(25)");
        });
        s.says("NONE.", x -> {
            x.still(NONE, "told(-1)", "told(1)", "told(9)", "told(16)", "told(19)", "told(26)", "told(MIN)",
                    "told(MAX)");
        });
        s.says("MOST (2 without): the last n of most, 2 if more.", x -> {
            x.is(2, "told(0)");
            x.town(0, "heft 1 s=1");
            x.is(2, "told(0)");
            x.town(1, "most 0");
            x.is(0, "told(0)");
            x.town(2, "most 1;most 2;most 1");
            x.is(1, "told(0)");
            x.town(3, "most 0;most 2");
            x.is(2, "told(0)");
            x.town(4, "most 1;most 3");
            x.is(2, "told(0)");
            x.town(5, "most 99;most 01;heft 1 s=1");
            x.is(1, "told(0)");
        });
    }

    private void hefts(Sentences s) {
        s.promise(9);
        s.says("HEFT of a SORT: the n of all heft whose E holds, together (2 and its number, if there are no heft"
                + " CLAUSES at all).", x -> {
            x.hefts(2, 3, 4, 5, 6, 7);
            x.town(0, "most 1;keep 9 s=0");
            x.hefts(2, 3, 4, 5, 6, 7);
            x.town(1, "heft 9 s>5");
            x.hefts(0, 0, 0, 0, 0, 0);
            x.town(2, "heft 0 s=0");
            x.hefts(0, 0, 0, 0, 0, 0);
            x.town(3, "heft 5 s=3;heft 7 s>2;keep 8 s=3");
            x.hefts(0, 0, 0, 12, 7, 7);
            x.town(4, "heft 99 s=0;".repeat(7) + "heft 99 s=0");
            x.hefts(792, 0, 0, 0, 0, 0);
            x.is(0, "payer(0, 0)", "purse(0, 0, 99)");
            x.is(99 * 792, "of(0, 3)");
        });
        s.says("KEPT of a PAYER and a SORT: of all keep likewise (0 without).", x -> {
            x.is(0, "payer(0, 0)");
            x.is(1, "payer(1, 0)");
            x.kept(0, 0, 0, 0, 0, 0, 0);
            x.town(0, "heft 9 s=0;most 1");
            x.kept(0, 0, 0, 0, 0, 0, 0);
            x.town(1, "keep 5 s=3;keep 7 s>2;heft 8 s=3;keep 1 p=1");
            x.kept(0, 0, 0, 0, 12, 7, 7);
            x.kept(1, 1, 1, 1, 13, 8, 8);
            x.town(2, "keep 99 s=0;".repeat(7) + "keep 99 s=0");
            x.kept(0, 792, 0, 0, 0, 0, 0);
        });
    }

    private void tests(Sentences s) {
        s.promise(9);
        s.says("of a SORT s its number, w what it is worth, t how many of it are in THE TILL", x -> {
            x.is(0, "payer(0, 0)");
            x.town(0, "keep 1 s<3;keep 10 s=3;keep 50 s>3");
            x.kept(0, 1, 1, 1, 10, 50, 50);
            x.town(1, "keep 1 w<10;keep 10 w=10;keep 50 w>10");
            x.kept(0, 1, 1, 1, 10, 50, 50);
            x.till(0, 49, 50, 51, 98, 99);
            x.town(2, "keep 1 t<50;keep 10 t=50;keep 50 t>50");
            x.kept(0, 1, 1, 10, 50, 50, 50);
            x.town(3, "keep 1 t<99;keep 10 t=99;keep 2 t>98;keep 4 t<1;keep 20 t=00;keep 8 t>0");
            x.kept(0, 25, 9, 9, 9, 9, 20);
            x.town(4, "keep 1 s=05;keep 2 s=5;keep 4 s<00;keep 8 s>5;keep 16 s<99;keep 32 w=50");
            x.kept(0, 16, 16, 16, 16, 16, 51);
            x.town(5, "keep 1 w=1;keep 2 w=2;keep 3 w=5;keep 4 w=10;keep 5 w=20;keep 6 w=50");
            x.kept(0, 1, 2, 3, 4, 5, 6);
        });
        s.says("and of a PAYER p the number, k the KIND, d PAID modulo 7", x -> {
            x.is(0, "payer(0, 6)");
            x.is(1, "payer(6, 5)");
            x.is(2, "payer(3, 9)");
            x.is(3, "payer(1, 0)");
            x.town(0, "keep 1 p=0;keep 2 p=3;keep 4 p<1;keep 8 p>2;keep 16 p>0&p<3");
            x.is(5, "of(0, 20)");
            x.is(16, "of(1, 20)", "of(2, 25)");
            x.is(10, "of(3, 20)");
            x.town(1, "keep 1 k=0;keep 2 k=6;keep 4 k<1;keep 8 k>5;keep 16 k=3");
            x.is(5, "of(0, 20)");
            x.is(10, "of(1, 20)");
            x.is(16, "of(2, 20)");
            x.is(0, "of(3, 20)");
        });
        s.says("d PAID modulo 7", x -> {
            x.is(0, "payer(0, 0)", "purse(0, 0, 60)");
            x.is(9, "till(0, 0)");
            x.town(0, "keep 1 d=0;keep 2 d=1;keep 3 d=6;keep 10 d>6;keep 4 d<6&d>1");
            int[] kept = {1, 2, 4, 4, 4, 4, 3, 1, 2, 4, 4, 4, 4, 3, 1};
            for (int paid = 0; paid < kept.length; paid++) {
                x.is(paid, "of(0, 2)");
                x.is(kept[paid], "of(0, 21)");
                x.is(1, "pay(0, 1)");
            }
        });
        s.says("(of heft t, p, k, d: 0)", x -> {
            x.is(0, "payer(0, 0)");
            x.is(1, "payer(6, 0)");
            x.is(0, "purse(1, 1, 7)");
            x.is(1, "pay(1, 2)");
            x.till(7, 7, 7, 7, 7, 7);
            x.town(0, "heft 1 t=0;heft 2 p=0;heft 4 k=0;heft 8 d=0;heft 16 t>0|p>0|k>0|d>0");
            x.hefts(15, 15, 15, 15, 15, 15);
            x.is(15 * 6, "of(1, 3)");
        });
    }
}
