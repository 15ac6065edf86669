/** Promises 27 to 37: judging, THE IMAGE, ACTS, KINDS, counts, TAPES. */
final class Tapes extends Group {
    void sayAll(Sentences s) {
        judge(s);
        image(s);
        undo(s);
        act(s);
        bodies(s);
        trace(s);
        taken(s);
        count(s);
        tape(s);
        item(s);
        read(s);
        shift(s);
        shiftRefuses(s);
    }

    private void judge(Sentences s) {
        s.promise(27);
        s.says("JUDGED from place i of a TAPE on.", x -> {
            x.is(1, "tape(0, 0, 7)");
            x.till(1, 2, 3, 4, 5, 6);
            for (int i = 1; i < 7; i++) {
                x.is(1, "item(0, " + i + ", " + i + ")");
            }
            x.still(0, "judge(0, 0)", "judge(0, 2)");
            x.still(NOBODY, "judge(0, 1)");
        });
        s.says("NONE: tape", x -> {
            x.still(NONE, "judge(-1, 0)", "judge(6, 0)", "judge(MIN, 0)", "judge(MAX, -1)");
            x.is(100, "judge(0, 0)", "judge(5, 0)");
        });
        s.says("CAST: it is no row of bytes.", x -> {
            x.is(1, "tape(0, 0, 6)", "tape(1, 1, 6)", "tape(2, 2, 6)", "tape(3, 3, 6)", "tape(4, 4, 6)",
                    "tape(5, 1, 0)");
            x.still(CAST, "judge(1, 0)", "judge(2, 0)", "judge(3, 0)", "judge(4, 0)", "judge(5, 0)", "judge(1, -1)",
                    "judge(4, 6)");
            x.is(0, "judge(0, 0)");
        });
        s.says("THE TILL told by a row of bytes, from a place on, SORT by SORT, is JUDGED: the first that is"
                + " otherwise; -5: none, or there is none to look at;", x -> {
            x.is(1, "tape(0, 0, 6)");
            x.till(0, 99, 3, 4, 5, 0);
            int[] till = {0, 99, 3, 4, 5, 0};
            for (int i = 0; i < 6; i++) {
                x.is(1, "item(0, " + i + ", " + till[i] + ")");
            }
            x.still(NOBODY, "judge(0, 0)");
            for (int i = 5; i >= 0; i--) {
                x.is(1, "item(0, " + i + ", " + (till[i] + 1) + ")");
                x.still(i, "judge(0, 0)");
            }
            x.is(1, "item(0, 0, 256)");
            x.is(1, "judge(0, 0)");
        });
        s.says("100 and how many were looked at, if the row ends ahead of that (or the place is below 0, or the"
                + " TAPE holds nothing).", x -> {
            x.still(100, "judge(0, 0)", "judge(0, -1)", "judge(0, MAX)");
            x.is(1, "tape(0, 0, 0)");
            x.still(100, "judge(0, 0)", "judge(0, -1)", "judge(0, 1)");
            for (int n = 1; n <= 6; n++) {
                x.is(1, "tape(0, 0, " + n + ")");
                for (int i = 0; i < n; i++) {
                    x.is(1, "item(0, " + i + ", 9)");
                }
                x.is(n < 6 ? 100 + n : NOBODY, "judge(0, 0)");
            }
            x.still(105, "judge(0, 1)");
            x.still(101, "judge(0, 5)");
            x.still(100, "judge(0, 6)", "judge(0, 7)", "judge(0, MAX)", "judge(0, -1)", "judge(0, MIN)");
            x.is(1, "item(0, 4, 8)");
            x.still(3, "judge(0, 1)");
            x.is(1, "tape(0, 0, 60)");
            x.is(0, "judge(0, 59)");
            x.is(1, "item(0, 59, 9)");
            x.is(101, "judge(0, 59)");
            x.is(100, "judge(0, 60)");
            x.is(1, "tape(0, -1, 0)");
            x.is(100, "judge(0, 59)");
        });
    }

    private void image(Sentences s) {
        s.promise(28);
        s.says("THE IMAGE is taken: how many PAYERS there are.", x -> {
            for (int p = 0; p <= 4; p++) {
                x.is(p, "image()", "undo()");
                x.is(p < 4 ? p : FULL, "payer(0, 0)");
            }
            x.is(4, "image()", "undo()");
        });
        s.says("THE IMAGE is taken: how many PAYERS there are.", x -> {
            // the latest is THE IMAGE
            x.is(0, "image()", "payer(0, 0)");
            x.is(1, "image()", "payer(0, 0)", "undo()", "undo()", "count(0)");
        });
    }

    private void undo(Sentences s) {
        s.promise(29);
        s.says("All is as THE IMAGE: how many PAYERS.", x -> {
            x.is(0, "image()", "payer(6, 9)", "row(0, 0, 5)", "purse(0, 2, 5)");
            x.is(1, "payer(1, 0)", "pay(0, 5)", "of(0, 2)");
            x.is(0, "undo()", "count(0)", "undo()");
            x.is(NONE, "of(0, 0)");
            // who comes anew has nothing of who was there
            x.is(0, "payer(6, 0)", "of(0, 1)", "of(0, 2)", "of(0, 4)", "row(0, 0, 0)");
        });
        s.says("STATE: there is none.", x -> {
            x.still(STATE, "undo()");
            x.is(0, "payer(0, 0)");
            x.still(STATE, "undo()");
            x.is(1, "image()", "undo()");
        });
        s.says("THE IMAGE: PAYERS with all that is theirs, THE TILL, the ROW of prices, SEEN, the BOOK,"
                + " which TOWN holds.", x -> {
            rich(x);
            x.is(3, "image()");
            x.undoes("payer(5, 1)", "purse(3, 5, 9)", "pay(3, 1)");
            x.undoes("pay(1, 22)", "pay(2, 9)");
            x.undoes("purse(0, 0, 99)", "purse(2, 5, 0)");
            x.undoes("row(0, 0, 1)", "row(0, 3, 3)");
            x.undoes("till(0, 0)", "till(5, 99)");
            x.undoes("price(8)");
            x.undoes("price(-1)", "price(199)");
            x.undoes("see(1, 1)");
            x.undoes("see(-1, 0)", "see(9, 99)");
            x.undoes("book(0, 8)");
            x.undoes("book(-1, 0)", "book(2, 199)");
            x.undoes("undo()");
        });
        s.says("SEEN, the BOOK, which TOWN holds.", x -> {
            // what the rows hold, not how many they are
            x.is(0, "payer(0, 0)", "purse(0, 0, 2)");
            x.is(1, "see(1, 1)", "book(0, 2)", "price(2)", "image()");
            x.is(0, "see(-1, 0)", "book(-1, 0)", "price(-1)");
            x.is(1, "see(2, 1)", "book(0, 5)", "price(5)");
            x.is(0, "fits()", "looked()", "behind(0, 2)");
            x.is(1, "undo()", "fits()", "behind(0, 2)");
            x.is(NOBODY, "looked()");
            x.is(0, "see(-1, 0)");
            x.is(1, "see(1, 2)");
            x.is(0, "fits()");
            x.is(1, "undo()", "fits()");
        });
        s.says("which TOWN holds", x -> {
            x.is(0, "image()");
            x.town(0, "most 1");
            x.is(0, "undo()");
            x.is(2, "told(0)");
            x.is(1, "count(1)");
            x.town(1, "most 0");
            x.is(0, "image()");
            for (int t = 2; t < 6; t++) {
                x.town(t, "most 1");
            }
            x.is(1, "told(0)");
            x.is(0, "undo()", "told(0)");
            // TOWNS are not of THE IMAGE, nor are THE TEXT, TAPES and the TRACE
            x.is(6, "count(1)");
            x.is(FULL, "town()");
            x.is(1, "feed(59)", "tape(0, 0, 1)", "item(0, 0, 1)");
            x.is(0, "payer(0, 0)", "act(0, 2, 0)", "undo()");
            x.is(1, "count(5)", "read(0, 0)");
            x.is(3, "count(6)");
        });
    }

    private void act(Sentences s) {
        s.promise(30);
        s.says("An ACT (0 counts, 1 hands, 2 tells) of a PAYER with x.", x -> {
            x.is(0, "payer(0, 0)");
            x.is(1, "payer(0, 5)");
            x.is(11, "act(1, 0, 10)");
            x.is(6, "act(1, 1, 10)");
            x.is(12, "act(1, 2, 10)");
        });
        s.says("0, and no TRACE then: no such PAYER, act.", x -> {
            String[] refused = {"act(0, -1, 5)", "act(0, 3, 5)", "act(0, MIN, 5)", "act(0, MAX, 5)", "act(1, 0, 5)",
                    "act(-1, 0, 5)", "act(4, 2, 5)", "act(MAX, 1, 5)"};
            x.still(0, refused);
            x.is(0, "payer(0, 0)");
            for (String call : refused) {
                x.is(5, "act(0, 0, 5)");
                x.is(10, "trace(0)");
                x.is(0, call, "count(6)");
                x.is(NONE, "trace(0)");
            }
        });
        s.says("ACTS of a PAYER with x (wrapping): 0 counts, 1 hands, 2 tells; i its number.", x -> {
            int max = Integer.MAX_VALUE;
            int min = Integer.MIN_VALUE;
            x.is(0, "payer(0, 9)");
            x.is(1, "payer(2, 9)");
            x.is(2, "payer(4, 9)");
            x.is(3, "payer(0, 9)");
            x.is(max, "act(0, 0, MAX)");
            x.is(min, "act(0, 0, MIN)");
            x.is(min + 2, "act(3, 0, MAX)");
            x.is(max - 8, "act(0, 1, MIN)");
            x.is(2 * (max - 8), "act(0, 2, MIN)");
            x.is(-2 - 18, "act(0, 2, MAX)");
            x.is(max * 3 + 1, "act(1, 0, MAX)");
            x.is(min + 1, "act(1, 0, MIN)");
            x.is(min, "act(2, 0, 2147483646)");
            x.is(max, "act(2, 0, 2147483647)");
        });
    }

    /** An ACT of a PAYER of the KIND whose number is 1 and v 5, with 10. */
    private void body(Sentences s, String words, int kind, int counts, int hands, int tells) {
        s.says(words, x -> {
            x.is(0, "payer(0, 0)");
            x.is(1, "payer(" + kind + ", 5)");
            x.is(counts, "act(1, 0, 10)");
            x.is(hands, "act(1, 1, 10)");
            x.is(tells, "act(1, 2, 10)");
        });
    }

    private void bodies(Sentences s) {
        s.promise(30);
        body(s, "BODIES: PAYER: 10 counts: x + i. 11 hands: counts(x) - v. 12 tells:"
                + " hands(x) * 2.", PAYER, 11, 6, 12);
        body(s, "EXACT: 20 hands: super.hands(x) ^ 6.", EXACT, 11, 0, 0);
        body(s, "ROUGH: 30 counts: super.counts(x * 3).", ROUGH, 31, 26, 52);
        body(s, "KEEPER: 40 tells: super.tells(x) + hands(1).", KEEPER, 11, 6, 12 - 3);
        body(s, "LIGHT: 50 counts: -super.counts(x). 51 hands:"
                + " super.hands(x + 1).", LIGHT, -11, -17 ^ 6, (-17 ^ 6) * 2);
        body(s, "WILD: 60 tells: super.tells(x - i).", WILD, 31, 26, (28 - 5) * 2);
        body(s, "TOLD: 70 hands: super.hands(x) + super.counts(2). 71 counts:"
                + " super.counts(x) ^ v.", TOLD, 14, 9 + 3, 24 + (2 + 3));
    }

    /** The TRACES of the three ACTS of a KIND. */
    private void traces(Run x, int kind, int[]... bodies) {
        int payer = kind % 4;
        x.is(payer, "payer(" + kind + ", 1)");
        for (int act = 0; act < 3; act++) {
            x.answer("act(" + payer + ", " + act + ", 3)");
            x.is(bodies[act].length, "count(6)");
            for (int i = 0; i < bodies[act].length; i++) {
                x.is(bodies[act][i], "trace(" + i + ")");
            }
            x.is(NONE, "trace(" + bodies[act].length + ")");
        }
    }

    private void trace(Sentences s) {
        s.promise(31);
        s.says("THE TRACE's i-th body.", x -> {
            x.is(0, "payer(0, 0)", "act(0, 2, 0)");
            x.still(12, "trace(0)");
            x.still(11, "trace(1)");
            x.still(10, "trace(2)");
            x.still(NONE, "trace(3)", "trace(-1)");
        });
        s.says("NONE.", x -> {
            x.still(NONE, "trace(0)", "trace(-1)", "trace(MIN)", "trace(MAX)");
            x.is(0, "payer(6, 0)");
            x.is(3, "act(0, 0, 3)");
            x.still(NONE, "trace(2)", "trace(3)", "trace(19)", "trace(20)", "trace(-1)", "trace(MAX)");
            x.is(10, "trace(1)");
        });
        s.says("THE TRACE: the numbers of the bodies that ran in the latest act(), as they began; the first"
                + " 20 are kept.", x -> {
            // no act has more than 12, so 20 are never reached
            traces(x, PAYER, new int[] {10}, new int[] {11, 10}, new int[] {12, 11, 10});
            traces(x, EXACT, new int[] {10}, new int[] {20, 11, 10}, new int[] {12, 20, 11, 10});
            traces(x, ROUGH, new int[] {30, 10}, new int[] {11, 30, 10}, new int[] {12, 11, 30, 10});
            traces(x, KEEPER, new int[] {10}, new int[] {11, 10}, new int[] {40, 12, 11, 10, 11, 10});
        });
        s.says("counts(..) and so on: the body of its KIND, or, if that has none, of the next KIND above that has"
                + " one; super.counts(..): so from the KIND above the body's on; all that stands in a body is"
                + " done from the left on.", x -> {
            traces(x, LIGHT, new int[] {50, 10}, new int[] {51, 20, 11, 50, 10}, new int[] {12, 51, 20, 11, 50, 10});
            traces(x, WILD, new int[] {30, 10}, new int[] {11, 30, 10}, new int[] {60, 12, 11, 30, 10});
            traces(x, TOLD, new int[] {71, 10}, new int[] {70, 11, 71, 10, 10},
                    new int[] {40, 12, 70, 11, 71, 10, 10, 70, 11, 71, 10, 10});
        });
    }

    private void taken(Sentences s) {
        s.promise(32);
        s.says("A PAYER taken for one of KIND k (0 .. 6), or one under that: its KIND.", x -> {
            for (int kind = 0; kind < 4; kind++) {
                x.is(kind, "payer(" + kind + ", 0)");
                x.still(kind, "taken(" + kind + ", 0)", "taken(" + kind + ", " + kind + ")");
                x.still(CAST, "taken(" + kind + ", 4)", "taken(" + kind + ", 5)", "taken(" + kind + ", 6)");
            }
            x.is(CAST, "taken(0, 1)", "taken(0, 3)", "taken(1, 2)", "taken(2, 1)", "taken(3, 2)", "taken(1, 3)",
                    "taken(3, 1)");
        });
        s.says("are of KINDS: 0 PAYER; 1 EXACT, 2 ROUGH, 3 KEEPER under PAYER; 4 LIGHT under EXACT; 5 WILD under"
                + " ROUGH; 6 TOLD under KEEPER;", x -> {
            for (int p = 0; p < 3; p++) {
                x.is(p, "payer(" + (p + 4) + ", 0)");
                for (int k = 0; k < 7; k++) {
                    boolean is = k == 0 || k == p + 1 || k == p + 4;
                    x.is(is ? p + 4 : CAST, "taken(" + p + ", " + k + ")");
                }
            }
        });
        s.says("BAD: k", x -> {
            x.still(BAD, "taken(0, -1)", "taken(0, 7)", "taken(-1, 7)");
            x.is(0, "payer(6, 0)");
            x.still(BAD, "taken(0, -1)", "taken(0, 7)", "taken(0, MIN)", "taken(0, MAX)");
            x.is(6, "taken(0, 0)", "taken(0, 6)");
        });
        s.says("NOTHING: no such PAYER", x -> {
            x.still(NOTHING, "taken(0, 0)", "taken(-1, 6)", "taken(4, 0)");
            x.is(0, "payer(0, 0)", "taken(0, 0)");
            x.still(NOTHING, "taken(1, 0)", "taken(-1, 0)", "taken(1, 6)", "taken(MIN, 0)", "taken(MAX, 0)");
        });
        s.says("CAST.", x -> {
            x.is(0, "payer(0, 0)", "taken(0, 0)");
            x.still(CAST, "taken(0, 1)", "taken(0, 6)");
        });
    }

    private void count(Sentences s) {
        s.promise(33);
        s.says("How many: 0 PAYERS, 1 TOWNS, 2 of the ROW of prices, 3 SEEN, 4 of the BOOK, 5 bytes of THE TEXT,"
                + " 6 bodies that ran in the latest act() (all, kept or not).", x -> {
            rich(x);
            x.still(3, "count(0)", "count(2)", "count(4)", "count(5)");
            x.still(1, "count(1)");
            x.still(2, "count(3)", "count(6)");
            x.answer("act(0, 2, 1)");
            x.is(12, "count(6)");
            x.is(0, "act(3, 2, 1)", "count(6)");
        });
        s.says("BAD.", x -> {
            x.still(BAD, "count(-1)", "count(7)", "count(MIN)", "count(MAX)");
            x.is(0, "count(0)", "count(6)");
        });
    }

    private void tape(Sentences s) {
        s.promise(34);
        s.says("A TAPE becomes a row of n (0 .. 60) of a sort, all 0, or holds nothing (sort -1: n does"
                + " not matter): 1.", x -> {
            x.is(1, "tape(0, 3, 60)", "item(0, 0, 7)", "item(0, 59, 7)");
            x.is(PLACE, "item(0, 60, 7)");
            x.is(1, "tape(0, 3, 1)");
            x.is(PLACE, "item(0, 1, 7)");
            x.is(0, "read(0, 0)");
            x.is(1, "tape(0, 3, 60)");
            x.is(0, "read(0, 0)", "read(0, 59)");
            x.is(1, "tape(0, 3, 0)");
            x.is(PLACE, "item(0, 0, 7)");
            for (String n : new String[] {"-1", "0", "60", "61", "MIN", "MAX"}) {
                x.is(1, "tape(0, 3, 2)", "tape(0, -1, " + n + ")");
                x.is(NOTHING, "item(0, 0, 7)");
            }
            x.is(1, "tape(0, -1, 5)");
        });
        s.says("NONE: tape", x -> {
            x.still(NONE, "tape(-1, 0, 1)", "tape(6, 0, 1)", "tape(MIN, 0, 1)", "tape(MAX, 0, 1)", "tape(6, -1, 0)",
                    "tape(-1, 5, -1)", "tape(6, 0, 61)");
            x.is(1, "tape(0, 0, 1)", "tape(5, 0, 1)");
        });
        s.says("BAD: sort, n above 60", x -> {
            x.is(1, "tape(0, 2, 3)", "item(0, 1, 7)");
            x.still(BAD, "tape(0, -2, 1)", "tape(0, 5, 1)", "tape(0, MIN, 1)", "tape(0, MAX, 1)");
            x.still(BAD, "tape(0, 0, 61)", "tape(0, 4, MAX)", "tape(0, 5, -1)", "tape(0, -2, -1)",
                    "tape(0, 5, 61)");
            x.is(7, "read(0, 1)");
            x.is(1, "tape(0, 4, 60)", "tape(0, 0, 60)");
        });
        s.says("SIZE.", x -> {
            x.is(1, "tape(0, 2, 3)", "item(0, 1, 7)");
            x.still(SIZE, "tape(0, 0, -1)", "tape(0, 4, -1)", "tape(0, 2, MIN)", "tape(5, 0, -1)");
            x.is(7, "read(0, 1)");
            x.is(1, "tape(0, 0, 0)");
        });
        s.says("TAPES 0 .. 5 hold nothing (at first), or a row of 0 bytes, 1 shorts, 2 ints, 3 longs, 4 booleans"
                + " (items 0, 1).", x -> {
            for (int t = 0; t < 6; t++) {
                x.still(NOTHING, "item(" + t + ", 0, 0)");
                x.is(NO, "read(" + t + ", 0)");
            }
            long[] most = {-1, -1, -1, Long.MAX_VALUE, 1};
            for (int sort = 0; sort < 5; sort++) {
                x.is(1, "tape(" + sort + ", " + sort + ", 1)", "item(" + sort + ", 0, " + Long.MAX_VALUE + ")");
                x.is(most[sort], "read(" + sort + ", 0)");
            }
            x.is(NOTHING, "item(5, 0, 0)");
        });
        s.says("The host's refusals: NOTHING (-11): nothing is there; CAST (-12): another sort or KIND; PLACE"
                + " (-13): no such place; SIZE (-14): a size below 0.", x -> {
            x.still(-11, "item(0, 0, 1)", "taken(0, 0)", "shift(0, 0, 1, 0, 0)");
            x.is(1, "tape(0, 0, 1)", "tape(1, 1, 1)");
            x.is(0, "payer(0, 0)");
            x.still(-12, "shift(0, 0, 1, 0, 0)", "judge(1, 0)", "taken(0, 1)");
            x.still(-13, "item(0, 1, 1)", "shift(0, 0, 0, 0, 2)");
            x.still(-14, "tape(0, 0, -1)");
        });
    }

    private void item(Sentences s) {
        s.promise(35);
        s.says("Item i of a TAPE becomes v (its lowest bits, as many as an item has; booleans: whether v"
                + " is not 0): 1.", x -> {
            String[] values = {"127", "128", "-128", "-129", "255", "256", "32767", "32768", "-32768", "-32769",
                    "2147483647", "2147483648", "-2147483648", "-2147483649", "4294967296", "" + Long.MAX_VALUE,
                    "" + Long.MIN_VALUE, "0", "-1"};
            for (int sort = 0; sort < 5; sort++) {
                x.is(1, "tape(" + sort + ", " + sort + ", 3)");
                for (String value : values) {
                    long v = Long.parseLong(value);
                    long[] want = {(byte) v, (short) v, (int) v, v, v == 0 ? 0 : 1};
                    x.is(1, "item(" + sort + ", 1, " + value + ")");
                    x.is(want[sort], "read(" + sort + ", 1)");
                }
                x.is(0, "read(" + sort + ", 0)", "read(" + sort + ", 2)");
            }
        });
        s.says("NONE", x -> {
            x.still(NONE, "item(-1, 0, 1)", "item(6, 0, 1)", "item(MIN, -1, 1)", "item(MAX, 60, 1)");
            x.is(1, "tape(0, 0, 1)", "tape(5, 0, 1)", "item(0, 0, 1)", "item(5, 0, 1)");
            x.still(NONE, "item(-1, 0, 1)", "item(6, 0, 1)");
        });
        s.says("NOTHING", x -> {
            x.still(NOTHING, "item(0, 0, 1)", "item(5, -1, 1)", "item(5, 60, 1)");
            x.is(1, "tape(0, 0, 1)", "item(0, 0, 1)", "tape(0, -1, 1)");
            x.still(NOTHING, "item(0, 0, 1)");
        });
        s.says("PLACE.", x -> {
            x.is(1, "tape(0, 0, 0)", "tape(1, 1, 3)", "tape(2, 2, 60)");
            x.still(PLACE, "item(0, 0, 1)", "item(0, -1, 1)", "item(1, -1, 1)", "item(1, 3, 1)", "item(1, MIN, 1)",
                    "item(1, MAX, 1)");
            x.still(PLACE, "item(2, 60, 1)", "item(2, -1, 1)");
            x.is(1, "item(1, 0, 1)", "item(1, 2, 1)", "item(2, 0, 1)", "item(2, 59, 1)");
        });
    }

    private void read(Sentences s) {
        s.promise(36);
        s.says("Item i of a TAPE.", x -> {
            x.is(1, "tape(5, 3, 60)", "item(5, 0, 8)", "item(5, 59, 9)");
            x.still(8, "read(5, 0)");
            x.still(9, "read(5, 59)");
            x.still(0, "read(5, 1)", "read(5, 58)");
        });
        s.says("NO: no such TAPE, nothing there, no such place.", x -> {
            x.still(NO, "read(-1, 0)", "read(6, 0)", "read(MIN, 0)", "read(MAX, 0)", "read(0, 0)", "read(5, 0)",
                    "read(0, -1)");
            x.is(1, "tape(0, 0, 0)", "tape(1, 1, 2)", "tape(2, 2, 60)", "item(1, 1, 1)");
            x.still(NO, "read(0, 0)", "read(1, -1)", "read(1, 2)", "read(1, MIN)", "read(1, MAX)", "read(2, 60)");
            x.is(0, "read(1, 0)", "read(2, 59)");
            x.is(1, "read(1, 1)", "tape(1, 1, 1)");
            x.is(NO, "read(1, 1)");
            x.is(1, "tape(1, -1, 1)");
            x.is(NO, "read(1, 0)", "read(1, 1)");
        });
    }

    private static void fill(Run x, int tape, int sort, int... items) {
        x.is(1, "tape(" + tape + ", " + sort + ", " + items.length + ")");
        for (int i = 0; i < items.length; i++) {
            x.is(1, "item(" + tape + ", " + i + ", " + items[i] + ")");
        }
    }

    private static void holds(Run x, int tape, int... items) {
        for (int i = 0; i < items.length; i++) {
            x.is(items[i], "read(" + tape + ", " + i + ")");
        }
        x.is(NO, "read(" + tape + ", " + items.length + ")");
    }

    private void shift(Sentences s) {
        s.promise(37);
        s.says("n items of a TAPE from i on come to another one (or the same) from j on, as they all"
                + " were before: n.", x -> {
            fill(x, 0, 1, 1, 2, 3, 4, 5);
            fill(x, 1, 1, 7, 8, 9);
            x.is(2, "shift(0, 3, 1, 1, 2)");
            holds(x, 1, 7, 4, 5);
            x.is(3, "shift(1, 0, 0, 0, 3)");
            holds(x, 0, 7, 4, 5, 4, 5);
            holds(x, 1, 7, 4, 5);
            x.still(0, "shift(0, 0, 1, 0, 0)", "shift(0, 5, 1, 3, 0)", "shift(1, 3, 0, 5, 0)",
                    "shift(0, 2, 0, 2, 0)");
            x.still(5, "shift(0, 0, 0, 0, 5)");
        });
        s.says("(or the same) from j on, as they all were before", x -> {
            fill(x, 0, 0, 1, 2, 3, 4, 5);
            x.is(4, "shift(0, 0, 0, 1, 4)");
            holds(x, 0, 1, 1, 2, 3, 4);
            x.is(4, "shift(0, 1, 0, 0, 4)");
            holds(x, 0, 1, 2, 3, 4, 4);
            x.is(2, "shift(0, 1, 0, 2, 2)");
            holds(x, 0, 1, 2, 2, 3, 4);
        });
    }

    private void shiftRefuses(Sentences s) {
        s.promise(37);
        s.says("NONE: tapes", x -> {
            fill(x, 0, 1, 1, 2);
            fill(x, 5, 1, 1, 2);
            x.still(NONE, "shift(-1, 0, 0, 0, 1)", "shift(6, 0, 0, 0, 1)", "shift(0, 0, -1, 0, 1)",
                    "shift(0, 0, 6, 0, 1)", "shift(MIN, 0, 0, 0, 1)", "shift(0, 0, MAX, 0, 1)",
                    "shift(1, 0, 6, 0, 1)", "shift(6, 0, 1, -1, -1)");
            x.is(2, "shift(0, 0, 5, 0, 2)", "shift(5, 0, 0, 0, 2)");
        });
        s.says("NOTHING", x -> {
            fill(x, 0, 1, 1, 2);
            x.still(NOTHING, "shift(0, 0, 1, 0, 0)", "shift(1, 0, 0, 0, 0)", "shift(1, 0, 2, 0, 0)",
                    "shift(1, -1, 1, 9, 9)", "shift(0, 9, 1, 9, 9)");
        });
        s.says("CAST: of unlike sorts", x -> {
            for (int sort = 0; sort < 5; sort++) {
                x.is(1, "tape(" + sort + ", " + sort + ", 2)");
            }
            for (int sort = 0; sort < 4; sort++) {
                x.still(CAST, "shift(" + sort + ", 0, " + (sort + 1) + ", 0, 1)",
                        "shift(" + (sort + 1) + ", 0, " + sort + ", 0, 0)",
                        "shift(" + sort + ", -1, " + (sort + 1) + ", 9, 9)");
            }
            x.is(1, "tape(5, 4, 2)", "shift(4, 0, 5, 0, 1)");
        });
        s.says("PLACE: n, i or j is below 0, or beyond either's end.", x -> {
            fill(x, 0, 1, 1, 2, 3);
            fill(x, 1, 1, 4, 5);
            x.still(PLACE, "shift(0, 0, 1, 0, -1)", "shift(0, -1, 1, 0, 1)", "shift(0, 0, 1, -1, 1)",
                    "shift(0, -1, 1, -1, 0)");
            x.still(PLACE, "shift(0, 0, 1, 0, 3)", "shift(0, 2, 1, 0, 2)", "shift(0, 0, 1, 1, 2)",
                    "shift(0, 3, 1, 0, 1)", "shift(0, 0, 1, 2, 1)", "shift(1, 0, 0, 0, 3)", "shift(1, 1, 0, 0, 2)",
                    "shift(0, 0, 0, 1, 3)");
            x.still(PLACE, "shift(0, 4, 1, 0, 0)", "shift(0, 0, 1, 3, 0)", "shift(0, 1, 1, 0, MAX)",
                    "shift(0, MAX, 1, 0, 1)", "shift(0, 0, 1, MAX, 1)", "shift(0, MAX, 1, MAX, MAX)",
                    "shift(0, MIN, 1, MIN, MIN)", "shift(0, 0, 1, 0, MIN)");
            x.is(0, "shift(0, 3, 1, 2, 0)");
            x.is(2, "shift(0, 1, 1, 0, 2)");
            holds(x, 0, 1, 2, 3);
            holds(x, 1, 2, 3);
        });
    }
}
