import java.util.function.Consumer;

/** Each promise of the document by hand: ordinary inputs, the edges it names, wrong inputs. */
public final class PromisesTest {
    private static final int NONE = -1, BAD = -2, STATE = -3, FULL = -4, NOBODY = -5;
    private static final int NOTHING = -11, CAST = -12, PLACE = -13, SIZE = -14;
    private static final int PAYER = 0, EXACT = 1, ROUGH = 2, KEEPER = 3, LIGHT = 4, WILD = 5, TOLD = 6;
    private static final long NO = Long.MIN_VALUE;

    private static int wrong = 0;
    private static int asked = 0;
    private static int promise = 0;

    public static void main(String[] args) {
        of(1, PromisesTest::aNewObject);
        of(2, PromisesTest::payer);
        of(3, PromisesTest::ofWhat);
        of(4, PromisesTest::purse);
        of(5, PromisesTest::till);
        of(6, PromisesTest::row);
        of(7, PromisesTest::feed);
        of(8, PromisesTest::town);
        of(8, PromisesTest::townFaults);
        of(8, PromisesTest::townsHold);
        of(9, PromisesTest::told);
        of(10, PromisesTest::pay);
        of(10, PromisesTest::overflows);
        of(11, PromisesTest::would);
        of(11, PromisesTest::kindsChoose);
        of(11, PromisesTest::keptAndMost);
        of(12, PromisesTest::least);
        of(13, PromisesTest::exactly);
        of(14, PromisesTest::price);
        of(15, PromisesTest::behind);
        of(16, PromisesTest::who);
        of(17, PromisesTest::next);
        of(18, PromisesTest::shortOf);
        of(19, PromisesTest::more);
        of(20, PromisesTest::heaviest);
        of(21, PromisesTest::see);
        of(22, PromisesTest::fits);
        of(23, PromisesTest::odds);
        of(24, PromisesTest::mean);
        of(25, PromisesTest::book);
        of(26, PromisesTest::looked);
        of(27, PromisesTest::judge);
        of(28, PromisesTest::image);
        of(29, PromisesTest::undo);
        of(30, PromisesTest::act);
        of(31, PromisesTest::trace);
        of(32, PromisesTest::taken);
        of(33, PromisesTest::count);
        of(34, PromisesTest::tape);
        of(35, PromisesTest::item);
        of(36, PromisesTest::read);
        of(37, PromisesTest::shift);
        System.out.println(asked + " answers looked at, " + wrong + " not as due");
        if (wrong != 0) {
            System.exit(1);
        }
    }

    private static void of(int number, Consumer<RidCoppers> test) {
        promise = number;
        test.accept(new RidCoppers());
    }

    private static void due(String call, long want, long got) {
        asked++;
        if (want != got) {
            wrong++;
            System.out.println("promise " + promise + ": " + call + " answered " + got + ", due is " + want);
        }
    }

    private static void feedAll(RidCoppers x, String text) {
        for (int i = 0; i < text.length(); i++) {
            x.feed(text.charAt(i));
        }
    }

    private static int townOf(RidCoppers x, String text) {
        feedAll(x, text);
        return x.town();
    }

    private static void fill(RidCoppers x, int payer, int... counts) {
        for (int s = 0; s < 6; s++) {
            x.purse(payer, s, counts[s]);
        }
    }

    private static void fillTill(RidCoppers x, int... counts) {
        for (int s = 0; s < 6; s++) {
            x.till(s, counts[s]);
        }
    }

    private static void dueHand(RidCoppers x, String call, int payer, int price, int... want) {
        for (int s = 0; s < 6; s++) {
            due(call + ": hands over of sort " + s, want[s], x.would(payer, price, 10 + s));
        }
    }

    private static void dueBack(RidCoppers x, String call, int payer, int price, int... want) {
        for (int s = 0; s < 6; s++) {
            due(call + ": gets back of sort " + s, want[s], x.would(payer, price, 20 + s));
        }
    }

    private static void aNewObject(RidCoppers x) {
        for (int what = 0; what <= 6; what++) {
            due("count(" + what + ")", 0, x.count(what));
        }
        for (int s = 0; s < 6; s++) {
            due("told(10 + s)", 9, x.told(10 + s));
            due("told(20 + s)", 2 + s, x.told(20 + s));
        }
        due("told(0)", 2, x.told(0));
        due("of(0, 0)", NONE, x.of(0, 0));
        due("undo()", STATE, x.undo());
        due("trace(0)", NONE, x.trace(0));
        for (int t = 0; t < 6; t++) {
            due("read(t, 0)", NO, x.read(t, 0));
        }
        RidCoppers other = new RidCoppers();
        other.till(0, 1);
        other.payer(0, 0);
        due("told(10) beside another object", 9, x.told(10));
        due("count(0) beside another object", 0, x.count(0));
        due("NONE", -1, RidCoppers.NONE);
        due("BAD", -2, RidCoppers.BAD);
        due("STATE", -3, RidCoppers.STATE);
        due("FULL", -4, RidCoppers.FULL);
        due("NO", Long.MIN_VALUE, RidCoppers.NO);
    }

    private static void payer(RidCoppers x) {
        due("payer(7, 10)", NONE, x.payer(7, 10));
        due("payer(-1, 0)", NONE, x.payer(-1, 0));
        due("payer(0, 10)", BAD, x.payer(0, 10));
        due("payer(6, -1)", BAD, x.payer(6, -1));
        due("count(0)", 0, x.count(0));
        due("payer(0, 0)", 0, x.payer(0, 0));
        due("payer(6, 9)", 1, x.payer(6, 9));
        due("payer(3, 1)", 2, x.payer(3, 1));
        due("payer(3, 1)", 3, x.payer(3, 1));
        due("payer(3, 1), the fifth", FULL, x.payer(3, 1));
        due("payer(7, 1), the fifth", NONE, x.payer(7, 1));
        due("payer(0, 10), the fifth", BAD, x.payer(0, 10));
        due("count(0)", 4, x.count(0));
        for (int kind = 0; kind < 7; kind++) {
            RidCoppers y = new RidCoppers();
            due("payer(kind, 9)", 0, y.payer(kind, 9));
            due("of(0, 0)", kind, y.of(0, 0));
            due("of(0, 1)", 9, y.of(0, 1));
        }
    }

    private static void ofWhat(RidCoppers x) {
        x.payer(ROUGH, 7);
        for (int s = 0; s < 6; s++) {
            due("of(0, 10 + s)", 0, x.of(0, 10 + s));
            due("of(0, 20 + s)", 0, x.of(0, 20 + s));
        }
        fill(x, 0, 1, 2, 3, 4, 5, 6);
        due("of(0, 0)", ROUGH, x.of(0, 0));
        due("of(0, 1)", 7, x.of(0, 1));
        due("of(0, 2)", 0, x.of(0, 2));
        due("of(0, 3)", 2 + 6 + 12 + 20 + 30 + 42, x.of(0, 3));
        due("of(0, 4)", 21, x.of(0, 4));
        for (int s = 0; s < 6; s++) {
            due("of(0, 10 + s)", s + 1, x.of(0, 10 + s));
        }
        x.pay(0, 50);
        due("of(0, 2) behind a payment", 1, x.of(0, 2));
        townOf(x, "keep 3 s=1;keep 99 s=1;keep 8 s=5&d=1");
        due("of(0, 20)", 0, x.of(0, 20));
        due("of(0, 21)", 102, x.of(0, 21));
        due("of(0, 25)", 8, x.of(0, 25));
        for (int what : new int[] {-1, 5, 9, 16, 19, 26, Integer.MIN_VALUE, Integer.MAX_VALUE}) {
            due("of(0, " + what + ")", NONE, x.of(0, what));
        }
        due("of(1, 0)", NONE, x.of(1, 0));
        due("of(-1, 0)", NONE, x.of(-1, 0));
        x.payer(PAYER, 0);
        x.payer(PAYER, 0);
        x.payer(PAYER, 0);
        due("of(3, 0)", PAYER, x.of(3, 0));
        due("of(4, 0)", NONE, x.of(4, 0));
        due("of(MAX, 0)", NONE, x.of(Integer.MAX_VALUE, 0));
    }

    private static void purse(RidCoppers x) {
        x.payer(0, 0);
        due("purse(0, 5, 99)", 0, x.purse(0, 5, 99));
        due("purse(0, 5, 3)", 99, x.purse(0, 5, 3));
        due("purse(0, 5, 100)", BAD, x.purse(0, 5, 100));
        due("purse(0, 5, -1)", BAD, x.purse(0, 5, -1));
        due("purse(0, 6, -1)", NONE, x.purse(0, 6, -1));
        due("purse(0, -1, 1)", NONE, x.purse(0, -1, 1));
        due("purse(1, 0, 100)", NONE, x.purse(1, 0, 100));
        due("purse(0, 5, 0)", 3, x.purse(0, 5, 0));
        due("of(0, 15)", 0, x.of(0, 15));
    }

    private static void till(RidCoppers x) {
        due("till(0, 99)", 9, x.till(0, 99));
        due("till(0, 0)", 99, x.till(0, 0));
        due("till(5, 1)", 9, x.till(5, 1));
        due("till(5, 100)", BAD, x.till(5, 100));
        due("till(5, -1)", BAD, x.till(5, -1));
        due("till(6, 100)", NONE, x.till(6, 100));
        due("till(-1, 0)", NONE, x.till(-1, 0));
        due("told(10)", 0, x.told(10));
        due("told(15)", 1, x.told(15));
    }

    private static void row(RidCoppers x) {
        x.payer(KEEPER, 0);
        x.payer(TOLD, 0);
        due("row(1, 0, 5)", 0, x.row(1, 0, 5));
        due("row(1, 3, 2)", 0, x.row(1, 3, 2));
        due("row(1, 0, 0)", 5, x.row(1, 0, 0));
        due("row(1, 3, 2)", 2, x.row(1, 3, 2));
        due("row(1, 4, 6)", NONE, x.row(1, 4, 6));
        due("row(1, -1, 0)", NONE, x.row(1, -1, 0));
        due("row(2, 0, 0)", NONE, x.row(2, 0, 0));
        due("row(1, 0, 6)", BAD, x.row(1, 0, 6));
        due("row(1, 0, -1)", BAD, x.row(1, 0, -1));
        due("row(0, 0, 6)", BAD, x.row(0, 0, 6));
        due("row(0, 0, 0)", STATE, x.row(0, 0, 0));
    }

    private static void feed(RidCoppers x) {
        due("feed(-1)", BAD, x.feed(-1));
        due("feed(128)", BAD, x.feed(128));
        for (int i = 1; i <= 100; i++) {
            due("feed(127)", i, x.feed(i % 2 == 0 ? 0 : 127));
        }
        due("feed(5), the 101st", FULL, x.feed(5));
        due("feed(128), the 101st", BAD, x.feed(128));
        due("count(5)", 100, x.count(5));
        due("town()", -10, x.town());
        due("feed(5)", 1, x.feed(5));
    }

    private static void town(RidCoppers x) {
        due("town() of no text", -10, x.town());
        due("town most 0", 0, townOf(x, "most 0"));
        due("count(5)", 0, x.count(5));
        due("told(0)", 0, x.told(0));
        due("town with all signs", 1,
                townOf(x, "heft 03 !s=0&(w>9|w<3);heft 10 (s=5);keep 1 s<2|s>4;most 1"));
        int[] hefts = {0, 3, 0, 3, 3, 13};
        for (int s = 0; s < 6; s++) {
            due("told(20 + " + s + ")", hefts[s], x.told(20 + s));
        }
        due("told(0)", 1, x.told(0));
        due("town of ten clauses", 2,
                townOf(x, "most 1;most 2;most 1;most 1;most 1;most 1;most 1;most 1;most 1;most 99"));
        due("told(0)", 2, x.told(0));
        due("told(20) without heft", 2, x.told(20));
        due("& ahead of |", 3, townOf(x, "heft 1 s=0|s=1&s=2;heft 2 !s=0&s<3;heft 4 !!s=3"));
        int[] sums = {1, 2, 2, 4, 0, 0};
        for (int s = 0; s < 6; s++) {
            due("told(20 + " + s + ") of &, |, !", sums[s], x.told(20 + s));
        }
        due("a PAYER's letters in heft", 4, townOf(x, "heft 1 t=0;heft 2 p=0;heft 4 k=0;heft 8 d=0;heft 16 t>0"));
        due("told(22)", 15, x.told(22));
        due("the sixth", 5, townOf(x, "most 1"));
        feedAll(x, "mosx");
        due("the seventh", FULL, x.town());
        due("count(5)", 4, x.count(5));
        due("count(1)", 6, x.count(1));
    }

    private static void townFaults(RidCoppers x) {
        String most = "most 1;most 1;most 1;most 1;most 1;most 1;most 1;most 1;most 1;most 1";
        String[] texts = {"", "x", "hef", "heff", "heft1", "heft ", "heft x", "heft 1", "heft 1 ", "heft 12",
            "heft 123 s=1", "heft 1  s=1", "heft 1 s", "heft 1 s=", "heft 1 s=x", "heft 1 s=123", "heft 1 s>=1",
            "heft 1 (s=1", "heft 1 ()", "heft 1 s=1)", "heft 1 s=1&", "heft 1 s=1|;", "heft 1 s=1 ", "most 1;",
            "most 1 ", ";", "most 1;;", "keep 1 !!!!s=1", "keep 1 !!!!!s=1", "keep 1 !(!(s=1))",
            "keep 1 ((((s=1))))", "keep 1 !(!((s=1)))", "keep 1 (!s=1&!s=1&!s=1|!!!s=2)", "keep 1 s=1&&s=2",
            "Most 1", "keep 1 v=1", most, most + ";", most + ";most 1", "most 1\t", "heft 1 !", "keep -1 s=1"};
        int[] places = {0, 0, 3, 3, 4, 5, 5, 6, 7, 7,
            7, 7, 8, 9, 9, 11, 9,
            11, 8, 10, 11, 11, 10, 7,
            6, 0, 7, -1, 11, -1,
            -1, 11, -1, 11,
            0, 7, -1, 69, 69, 6, 8, 5};
        due("as many texts as places", texts.length, places.length);
        for (int i = 0; i < texts.length; i++) {
            RidCoppers y = new RidCoppers();
            due("town of <" + texts[i] + ">", places[i] < 0 ? 0 : -10 - places[i], townOf(y, texts[i]));
            due("count(5)", 0, y.count(5));
            due("count(1)", places[i] < 0 ? 1 : 0, y.count(1));
        }
    }

    private static void townsHold(RidCoppers x) {
        townOf(x, "heft 50 s=3");
        due("a fault", -10, townOf(x, "?"));
        due("told(23): the one that held holds", 50, x.told(23));
        due("a newer one", 1, townOf(x, "most 1"));
        due("told(23): the newest holds", 5, x.told(23));
        x.payer(LIGHT, 3);
        x.payer(KEEPER, 3);
        fill(x, 1, 9, 9, 9, 9, 9, 9);
        x.pay(1, 1);
        x.pay(1, 1);
        x.till(2, 4);
        due("letters of keep", 2, townOf(x, "keep 1 p=1;keep 2 k=3;keep 4 d=2;keep 8 t=4;keep 16 w=5;keep 32 s=2"));
        due("of(1, 22)", 63, x.of(1, 22));
        due("of(0, 22)", 56, x.of(0, 22));
        due("of(1, 23)", 7, x.of(1, 23));
        RidCoppers y = new RidCoppers();
        y.payer(PAYER, 0);
        fill(y, 0, 0, 0, 0, 0, 0, 99);
        townOf(y, "keep 9 d=0");
        for (int i = 0; i < 8; i++) {
            due("of(0, 20) with PAID modulo 7", i % 7 == 0 ? 9 : 0, y.of(0, 20));
            y.till(5, 9);
            due("pay(0, 50)", 1, y.pay(0, 50));
        }
    }

    private static void told(RidCoppers x) {
        for (int what : new int[] {-1, 1, 9, 16, 19, 26, Integer.MIN_VALUE, Integer.MAX_VALUE}) {
            due("told(" + what + ")", NONE, x.told(what));
        }
        x.till(3, 77);
        due("told(13)", 77, x.told(13));
        townOf(x, "most 1;heft 7 s=3;heft 8 s=3");
        due("told(0)", 1, x.told(0));
        due("told(23)", 15, x.told(23));
        due("told(24)", 0, x.told(24));
    }

    private static void pay(RidCoppers x) {
        due("pay(0, 0)", NONE, x.pay(0, 0));
        x.payer(PAYER, 0);
        due("pay(-1, 5)", NONE, x.pay(-1, 5));
        due("pay(0, 0)", BAD, x.pay(0, 0));
        due("pay(0, 200)", BAD, x.pay(0, 200));
        due("pay(0, 199)", STATE, x.pay(0, 199));
        fill(x, 0, 1, 1, 1, 0, 0, 1);
        due("pay(0, 7)", 2, x.pay(0, 7));
        due("of(0, 11)", 0, x.of(0, 11));
        due("of(0, 12)", 0, x.of(0, 12));
        due("told(11)", 10, x.told(11));
        due("told(12)", 10, x.told(12));
        due("pay(0, 13), by 50", 1, x.pay(0, 13));
        int[] counts = {1, 1, 1, 1, 1, 0};
        int[] till = {9, 9, 9, 8, 8, 10};
        for (int s = 0; s < 6; s++) {
            due("of(0, 10 + s)", counts[s], x.of(0, 10 + s));
            due("told(10 + s)", till[s], x.told(10 + s));
        }
        due("of(0, 2)", 2, x.of(0, 2));
        due("pay(0, 39)", STATE, x.pay(0, 39));
        due("of(0, 2)", 2, x.of(0, 2));
        due("pay(0, 38)", 5, x.pay(0, 38));
    }

    private static void overflows(RidCoppers x) {
        x.payer(PAYER, 0);
        x.purse(0, 5, 2);
        x.till(5, 99);
        due("a till that would get above 99", STATE, x.pay(0, 50));
        x.till(5, 98);
        due("a till that gets 99", 1, x.pay(0, 50));
        fill(x, 0, 99, 0, 0, 0, 0, 1);
        fillTill(x, 9, 0, 0, 0, 9, 9);
        due("a purse that would get above 99", STATE, x.pay(0, 49));
        fill(x, 0, 98, 0, 0, 0, 0, 1);
        due("a purse that gets 99", 1, x.pay(0, 49));
        due("of(0, 10)", 99, x.of(0, 10));
    }

    private static void would(RidCoppers x) {
        x.payer(ROUGH, 0);
        fill(x, 0, 0, 0, 0, 0, 1, 1);
        due("would(0, 15, 0)", 20, x.would(0, 15, 0));
        due("would(0, 15, 1)", 2, x.would(0, 15, 1));
        due("would(0, 15, 2)", 11, x.would(0, 15, 2));
        dueHand(x, "would(0, 15)", 0, 15, 0, 0, 0, 0, 1, 0);
        dueBack(x, "would(0, 15)", 0, 15, 0, 0, 1, 0, 0, 0);
        dueHand(x, "would(0, 51)", 0, 51, 0, 0, 0, 0, 1, 1);
        dueBack(x, "would(0, 51)", 0, 51, 0, 2, 1, 1, 0, 0);
        due("of(0, 2): nothing changed", 0, x.of(0, 2));
        due("told(14): nothing changed", 9, x.told(14));
        for (int what : new int[] {0, 1, 2, 10, 15, 20, 25}) {
            due("would(0, 71, what)", NOBODY, x.would(0, 71, what));
            due("would(0, 0, what)", BAD, x.would(0, 0, what));
            due("would(0, 200, what)", BAD, x.would(0, 200, what));
            due("would(1, 5, what)", NONE, x.would(1, 5, what));
        }
        for (int what : new int[] {-1, 3, 9, 16, 19, 26, Integer.MIN_VALUE}) {
            due("would(0, 0, " + what + ")", NONE, x.would(0, 0, what));
        }
        fillTill(x, 0, 1, 1, 1, 0, 9);
        dueBack(x, "the greatest first, as the till has", 0, 3, 0, 1, 1, 1, 0, 0);
        due("would(0, 4, 0): 16 can't come back, 46 neither, nor 66", NOBODY, x.would(0, 4, 0));
        fillTill(x, 0, 3, 1, 0, 0, 0);
        due("would(0, 14, 0): 5 first, then 1 is left", NOBODY, x.would(0, 14, 0));
    }

    private static void kindsChoose(RidCoppers x) {
        int[] kinds = {PAYER, EXACT, ROUGH, KEEPER, LIGHT, WILD, TOLD};
        int[][] hands = {{0, 2, 1, 1, 0, 0}, {2, 1, 1, 1, 0, 0}, {0, 0, 0, 0, 1, 0}, {0, 0, 0, 0, 1, 0},
            {2, 1, 1, 1, 0, 0}, {0, 0, 0, 0, 0, 1}, {0, 2, 1, 1, 0, 0}};
        for (int k = 0; k < 7; k++) {
            RidCoppers y = new RidCoppers();
            y.payer(kinds[k], 7);
            fill(y, 0, 3, 2, 2, 1, 1, 1);
            dueHand(y, "kind " + k + " at 19", 0, 19, hands[k]);
        }
        x.payer(EXACT, 0);
        fill(x, 0, 0, 0, 2, 0, 1, 1);
        dueHand(x, "EXACT who can't pay exactly hands over the fewest coins", 0, 8, 0, 0, 2, 0, 0, 0);
        x.purse(0, 3, 1);
        dueHand(x, "EXACT who can't pay exactly hands over the fewest coins", 0, 8, 0, 0, 0, 1, 0, 0);
        x.payer(LIGHT, 0);
        fill(x, 1, 0, 0, 0, 0, 1, 1);
        dueHand(x, "LIGHT: of hands alike the first as rows", 1, 15, 0, 0, 0, 0, 1, 0);
        x.payer(TOLD, 2);
        fill(x, 2, 3, 2, 2, 1, 1, 1);
        x.row(2, 0, 1);
        x.row(2, 1, 2);
        dueHand(x, "TOLD, no twos at first", 2, 19, 0, 0, 0, 0, 1, 0);
        x.pay(2, 50);
        dueHand(x, "TOLD, no fives then", 2, 19, 0, 0, 0, 0, 1, 0);
        x.pay(2, 19);
        dueHand(x, "TOLD, no ones then", 2, 19, 0, 2, 1, 1, 0, 0);
        RidCoppers y = new RidCoppers();
        y.payer(KEEPER, 3);
        y.payer(ROUGH, 0);
        y.payer(WILD, 0);
        fill(y, 0, 0, 0, 2, 1, 0, 1);
        dueHand(y, "KEEPER of tens", 0, 10, 0, 0, 2, 0, 0, 0);
        fill(y, 1, 2, 2, 2, 2, 2, 0);
        fill(y, 2, 2, 2, 2, 2, 2, 0);
        dueHand(y, "ROUGH: the least SUM of the fewest", 1, 22, 0, 1, 0, 0, 1, 0);
        dueHand(y, "WILD: the greatest SUM of the fewest", 2, 22, 0, 0, 0, 0, 2, 0);
    }

    private static void keptAndMost(RidCoppers x) {
        x.payer(PAYER, 0);
        fill(x, 0, 5, 0, 0, 0, 0, 0);
        due("would(0, 2, 0): two of a sort at most", 2, x.would(0, 2, 0));
        due("would(0, 3, 0)", NOBODY, x.would(0, 3, 0));
        townOf(x, "most 1");
        due("would(0, 2, 0) with most 1", NOBODY, x.would(0, 2, 0));
        townOf(x, "keep 4 s=0");
        due("would(0, 1, 0) with one to spare", 1, x.would(0, 1, 0));
        due("would(0, 2, 0) with one to spare", NOBODY, x.would(0, 2, 0));
        townOf(x, "keep 5 s=0&t=9");
        due("would(0, 1, 0) with none to spare", NOBODY, x.would(0, 1, 0));
        x.till(0, 8);
        due("would(0, 1, 0) as the till has another count", 1, x.would(0, 1, 0));
        townOf(x, "most 0");
        due("would(0, 1, 0) with most 0", NOBODY, x.would(0, 1, 0));
    }

    private static void least(RidCoppers x) {
        x.payer(KEEPER, 4);
        fill(x, 0, 0, 0, 0, 0, 1, 1);
        due("would(0, 15, 2): a KEEPER hands over 50", 21, x.would(0, 15, 2));
        due("least(0, 15, 0): by any sort", 11, x.least(0, 15, 0));
        due("least(0, 15, 1)", 2, x.least(0, 15, 1));
        due("least(0, 71, 0)", NOBODY, x.least(0, 71, 0));
        due("least(0, 71, 1)", NOBODY, x.least(0, 71, 1));
        due("least(0, 0, 0)", BAD, x.least(0, 0, 0));
        due("least(0, 200, 1)", BAD, x.least(0, 200, 1));
        due("least(0, 0, 2)", NONE, x.least(0, 0, 2));
        due("least(0, 5, -1)", NONE, x.least(0, 5, -1));
        due("least(1, 5, 0)", NONE, x.least(1, 5, 0));
        x.payer(TOLD, 0);
        x.row(1, 0, 4);
        fill(x, 1, 0, 0, 0, 0, 1, 0);
        due("would(1, 20, 0)", NOBODY, x.would(1, 20, 0));
        due("least(1, 20, 0): by any sort", 0, x.least(1, 20, 0));
        townOf(x, "heft 1 s=5;heft 90 s<2");
        fill(x, 0, 0, 0, 0, 0, 1, 2);
        fillTill(x, 9, 9, 0, 0, 0, 0);
        due("least(0, 49, 0): by the weight, not the coins", 91, x.least(0, 49, 0));
        due("least(0, 49, 1)", 3, x.least(0, 49, 1));
    }

    private static void exactly(RidCoppers x) {
        due("exactly(0)", NONE, x.exactly(0));
        x.payer(KEEPER, 0);
        due("exactly(0) of an empty purse", 0, x.exactly(0));
        x.purse(0, 0, 9);
        due("exactly(0): 1 and 2, any sort", 2, x.exactly(0));
        x.purse(0, 5, 2);
        due("exactly(0): 1, 2, 50, 51, 52", 5, x.exactly(0));
        x.till(0, 98);
        due("exactly(0): 1, 50, 51", 3, x.exactly(0));
        x.till(0, 99);
        due("exactly(0): 50", 1, x.exactly(0));
        x.till(0, 9);
        townOf(x, "keep 2 s=5;most 1");
        due("exactly(0): 1", 1, x.exactly(0));
        fill(x, 0, 0, 0, 0, 2, 2, 2);
        townOf(x, "most 2");
        due("exactly(0): 10, 20 and so on, till 60", 6, x.exactly(0));
        fill(x, 0, 1, 0, 0, 0, 1, 1);
        x.purse(0, 3, 1);
        due("exactly(0): 61 is none", 10, x.exactly(0));
        due("exactly(-1)", NONE, x.exactly(-1));
    }

    private static void price(RidCoppers x) {
        due("price(0)", BAD, x.price(0));
        due("price(200)", BAD, x.price(200));
        due("price(-2)", BAD, x.price(-2));
        due("price(1)", 1, x.price(1));
        due("price(199)", 2, x.price(199));
        due("price(5)", 3, x.price(5));
        due("price(5)", 4, x.price(5));
        due("price(5), the fifth", FULL, x.price(5));
        due("price(0), the fifth", BAD, x.price(0));
        due("count(2)", 4, x.count(2));
        due("price(-1)", 0, x.price(-1));
        due("count(2)", 0, x.count(2));
        due("price(7)", 1, x.price(7));
    }

    private static void behind(RidCoppers x) {
        x.payer(PAYER, 0);
        fill(x, 0, 1, 1, 1, 0, 0, 1);
        due("behind(0, 0) of no row", 2 + 3 + 4 + 7, x.behind(0, 0));
        due("behind(0, 1) of no row", 4, x.behind(0, 1));
        due("behind(0, 2) of no row", 0, x.behind(0, 2));
        x.price(7);
        x.price(199);
        x.price(13);
        due("behind(0, 2): 199 is passed over", 2, x.behind(0, 2));
        due("behind(0, 1): 1, 2, 5, 10, 20 are left", 5, x.behind(0, 1));
        due("behind(0, 0)", 2 + 3 + 4 + 5 + 6, x.behind(0, 0));
        due("of(0, 4): nothing changed", 4, x.of(0, 4));
        due("of(0, 2): nothing changed", 0, x.of(0, 2));
        due("told(11): nothing changed", 9, x.told(11));
        due("behind(0, 3)", NONE, x.behind(0, 3));
        due("behind(0, -1)", NONE, x.behind(0, -1));
        due("behind(1, 0)", NONE, x.behind(1, 0));
        RidCoppers y = new RidCoppers();
        y.payer(TOLD, 0);
        y.row(0, 0, 5);
        y.row(0, 1, 0);
        fill(y, 0, 2, 0, 0, 0, 0, 1);
        y.price(1);
        y.price(1);
        due("behind(0, 2): PAID counts on", 2, y.behind(0, 2));
        due("behind(0, 1): 1 by 1, then 1 by 50, and 20, 20, 5, 2, 2 come back", 1 + 5, y.behind(0, 1));
    }

    private static void who(RidCoppers x) {
        due("who() of nobody", NOBODY, x.who());
        x.payer(PAYER, 0);
        x.payer(PAYER, 0);
        x.payer(PAYER, 0);
        fill(x, 0, 3, 0, 0, 0, 0, 0);
        fill(x, 1, 2, 0, 0, 0, 0, 0);
        fill(x, 2, 2, 0, 0, 0, 0, 0);
        due("who() of no row: of several the first", 1, x.who());
        x.price(1);
        x.price(1);
        due("who(): each alone", 1, x.who());
        x.price(1);
        due("who(): only one can pay all", 0, x.who());
        x.price(2);
        due("who(): nobody can", NOBODY, x.who());
        due("of(0, 10): nothing changed", 3, x.of(0, 10));
        RidCoppers y = new RidCoppers();
        y.payer(PAYER, 0);
        y.payer(PAYER, 0);
        y.purse(0, 5, 1);
        y.purse(1, 5, 1);
        y.till(0, 1);
        y.till(1, 2);
        y.till(2, 0);
        y.till(3, 0);
        y.till(4, 2);
        y.price(45);
        due("who(): the till is as it was for the second", 0, y.who());
        y.purse(1, 4, 2);
        y.purse(1, 2, 1);
        due("who(): the second pays exactly", 1, y.who());
    }

    private static void next(RidCoppers x) {
        due("next(0)", NONE, x.next(0));
        x.payer(PAYER, 0);
        due("next(0) of an empty purse", NOBODY, x.next(0));
        fill(x, 0, 2, 0, 0, 0, 2, 0);
        due("next(0): 22 leaves nobody a coin", 22, x.next(0));
        fill(x, 0, 0, 0, 0, 0, 1, 0);
        due("next(0): 20 leaves none", 20, x.next(0));
        x.till(4, 99);
        due("next(0): the till takes no 20", NOBODY, x.next(0));
        x.till(4, 9);
        fill(x, 0, 0, 0, 0, 0, 0, 1);
        due("next(0): by 30 one 20 comes back", 30, x.next(0));
        fill(x, 0, 1, 0, 0, 1, 0, 0);
        x.payer(ROUGH, 0);
        fill(x, 1, 1, 1, 0, 0, 0, 0);
        due("next(1)", 3, x.next(1));
        due("next(2)", NONE, x.next(2));
        x.payer(WILD, 0);
        fill(x, 2, 0, 0, 0, 1, 1, 0);
        due("next(2): of 10 and 20 and 30, 30", 30, x.next(2));
        x.payer(KEEPER, 0);
        fill(x, 3, 5, 1, 0, 0, 0, 0);
        due("next(3): as its kind hands over", 2, x.next(3));
        RidCoppers y = new RidCoppers();
        y.payer(PAYER, 0);
        fill(y, 0, 1, 0, 0, 1, 1, 0);
        due("next(0): of 11, 21 and 30 the least; 31 is none", 11, y.next(0));
    }

    private static void shortOf(RidCoppers x) {
        due("shortOf(0)", NONE, x.shortOf(0));
        x.payer(PAYER, 0);
        due("shortOf(0) of an empty purse", NOBODY, x.shortOf(0));
        x.purse(0, 0, 3);
        due("shortOf(0): worth 3, two of a sort", 3, x.shortOf(0));
        x.purse(0, 0, 2);
        due("shortOf(0): worth 2", NOBODY, x.shortOf(0));
        fill(x, 0, 0, 0, 0, 0, 0, 2);
        due("shortOf(0): the till has all", NOBODY, x.shortOf(0));
        fillTill(x, 0, 9, 9, 9, 9, 9);
        due("shortOf(0): 49 are 20, 20, 5, 2, 2", 2, x.shortOf(0));
        fillTill(x, 0, 0, 0, 0, 0, 0);
        due("shortOf(0)", 1, x.shortOf(0));
        x.payer(KEEPER, 5);
        fill(x, 1, 0, 0, 0, 0, 0, 1);
        due("shortOf(1): as its kind hands over", 1, x.shortOf(1));
        fill(x, 1, 2, 2, 2, 2, 2, 1);
        due("shortOf(1): no price up to 60", NOBODY, x.shortOf(1));
        fillTill(x, 9, 9, 9, 9, 9, 9);
        fill(x, 0, 0, 3, 1, 0, 0, 1);
        due("shortOf(0): 59 at most by two of a sort", 60, x.shortOf(0));
        fill(x, 0, 0, 0, 3, 0, 0, 1);
        due("shortOf(0): 61 is none", NOBODY, x.shortOf(0));
        due("shortOf(2)", NONE, x.shortOf(2));
        due("shortOf(-1)", NONE, x.shortOf(-1));
    }

    private static void more(RidCoppers x) {
        due("more(0, 5, 0)", -100001, x.more(0, 5, 0));
        x.payer(PAYER, 0);
        due("more(0, 5, 0) of an empty purse", 0, x.more(0, 5, 0));
        due("more(0, 0, 0)", -100002, x.more(0, 0, 0));
        due("more(0, 200, 0)", -100002, x.more(0, 200, 0));
        due("more(0, 200, 6)", -100001, x.more(0, 200, 6));
        due("more(0, 5, -1)", -100001, x.more(0, 5, -1));
        x.purse(0, 5, 1);
        fillTill(x, 9, 9, 9, 9, 0, 9);
        due("more(0, 30, 4): 20 for 10, 10", 6 - 10, x.more(0, 30, 4));
        due("more(0, 30, 3): no other", 0, x.more(0, 30, 3));
        due("told(14): nothing changed", 0, x.told(14));
        fillTill(x, 0, 0, 0, 0, 0, 9);
        due("more(0, 30, 4): it can not pay as it is", 0, x.more(0, 30, 4));
        fillTill(x, 0, 9, 0, 0, 9, 9);
        due("would(0, 24, 2)", 6 + 3 * 3, x.would(0, 24, 2));
        due("more(0, 24, 2): with a 5 more it can not", 0, x.more(0, 24, 2));
        fillTill(x, 99, 9, 9, 9, 9, 9);
        due("more(0, 49, 0): 99 at most", 0, x.more(0, 49, 0));
        townOf(x, "keep 1 s=4&t>0");
        fill(x, 0, 0, 0, 0, 0, 1, 1);
        fillTill(x, 9, 9, 9, 9, 0, 9);
        due("more(0, 20, 4): above 0, as it keeps its 20 then", 6 + 6 + 5 - 7, x.more(0, 20, 4));
    }

    private static void heaviest(RidCoppers x) {
        due("heaviest(0, 0)", NONE, x.heaviest(0, 0));
        x.payer(PAYER, 0);
        due("heaviest(0, 0)", BAD, x.heaviest(0, 0));
        due("heaviest(0, 9)", BAD, x.heaviest(0, 9));
        due("heaviest(0, 8)", 0, x.heaviest(0, 8));
        x.purse(0, 5, 1);
        // 7 by 50: 20, 20, 2, 1 come back; 14 by 20: 5, 1 come back; 21 by 20, 1; 28 by nothing
        due("heaviest(0, 1)", 6 + 6 + 3 + 2, x.heaviest(0, 1));
        due("heaviest(0, 2)", 6 + 3 + 2 + 4 + 2, x.heaviest(0, 2));
        due("heaviest(0, 3)", 17, x.heaviest(0, 3));
        due("heaviest(0, 8)", 17, x.heaviest(0, 8));
        due("of(0, 4): nothing changed", 1, x.of(0, 4));
        fill(x, 0, 2, 1, 1, 1, 1, 0);
        due("heaviest(0, 8): ahead of all", 4 + 3 + 4 + 5 + 6, x.heaviest(0, 8));
        x.purse(0, 2, 0);
        x.purse(0, 3, 0);
        x.purse(0, 4, 0);
        x.purse(0, 0, 0);
        x.purse(0, 1, 0);
        x.purse(0, 3, 2);
        x.till(0, 0);
        // 7 by 10: 3 can't come back but by 2 and 1; 20 less 7: neither; 14 by 20: 5 and 1, neither; 21: no
        due("heaviest(0, 4): passed over", 10, x.heaviest(0, 4));
        due("heaviest(-1, 4)", NONE, x.heaviest(-1, 4));
    }

    private static void see(RidCoppers x) {
        due("see(0, 5)", BAD, x.see(0, 5));
        due("see(200, 5)", BAD, x.see(200, 5));
        due("see(5, -1)", BAD, x.see(5, -1));
        due("see(5, 100)", BAD, x.see(5, 100));
        due("see(1, 0)", 1, x.see(1, 0));
        due("see(199, 99)", 2, x.see(199, 99));
        due("see(5, 5)", 3, x.see(5, 5));
        due("see(5, 5)", 4, x.see(5, 5));
        due("see(5, 5), the fifth", FULL, x.see(5, 5));
        due("see(5, 100), the fifth", BAD, x.see(5, 100));
        due("count(3)", 4, x.count(3));
        due("see(-1, 1000)", 0, x.see(-1, 1000));
        due("count(3)", 0, x.count(3));
        due("see(-2, 0)", BAD, x.see(-2, 0));
    }

    private static void fits(RidCoppers x) {
        due("fits() of nobody", 0, x.fits());
        x.payer(PAYER, 0);
        x.payer(EXACT, 0);
        x.payer(ROUGH, 0);
        x.payer(PAYER, 0);
        due("fits() with nothing seen", 15, x.fits());
        for (int p = 0; p < 3; p++) {
            fill(x, p, 3, 2, 2, 1, 1, 1);
        }
        x.see(19, 6);
        due("fits(): PAYER hands over 4 of 10", 1, x.fits());
        x.see(-1, 0);
        x.see(19, 5);
        due("fits(): EXACT hands over 5", 2, x.fits());
        x.see(-1, 0);
        x.see(19, 10);
        due("fits(): ROUGH hands over 1, gets back 1", 4, x.fits());
        x.see(-1, 0);
        x.see(50, 9);
        due("fits(): three hand over 50, the last has none", 7, x.fits());
        x.see(50, 9);
        due("fits(): each from now", 7, x.fits());
        x.see(19, 6);
        due("fits(): each of these prices", 1, x.fits());
        due("of(0, 4): nothing changed", 10, x.of(0, 4));
    }

    private static void odds(RidCoppers x) {
        due("odds(0, 0)", NO, x.odds(0, 0));
        x.payer(PAYER, 0);
        due("odds(0, 0)", 0, x.odds(0, 0));
        due("odds(0, 1)", 1, x.odds(0, 1));
        due("odds(0, 2)", NO, x.odds(0, 2));
        due("odds(0, -1)", NO, x.odds(0, -1));
        due("odds(1, 0)", NO, x.odds(1, 0));
        x.purse(0, 0, 1);
        due("odds(0, 0): 1 of 20", 1, x.odds(0, 0));
        due("odds(0, 1): 1 of 20", 20, x.odds(0, 1));
        x.purse(0, 0, 2);
        due("odds(0, 0): 2 of 20", 1, x.odds(0, 0));
        due("odds(0, 1): 2 of 20", 10, x.odds(0, 1));
        x.purse(0, 1, 2);
        due("odds(0, 0): 6 of 20", 3, x.odds(0, 0));
        due("odds(0, 1): 6 of 20", 10, x.odds(0, 1));
        x.purse(0, 4, 1);
        due("odds(0, 0): 20 of 20", 1, x.odds(0, 0));
        due("odds(0, 1): 20 of 20", 1, x.odds(0, 1));
        x.payer(KEEPER, 4);
        x.purse(1, 4, 1);
        due("odds(1, 0): as its kind hands over", 0, x.odds(1, 0));
    }

    private static void mean(RidCoppers x) {
        due("mean(5, 0) of nobody", NO, x.mean(5, 0));
        x.payer(PAYER, 0);
        x.payer(PAYER, 0);
        x.payer(PAYER, 0);
        x.payer(PAYER, 0);
        due("mean(5, 0): nobody can pay", NO, x.mean(5, 0));
        x.purse(0, 2, 1);
        fill(x, 1, 1, 2, 0, 0, 0, 0);
        due("mean(5, 0): 1 and 3 coins", 2, x.mean(5, 0));
        due("mean(5, 1): 1 and 3 coins", 1, x.mean(5, 1));
        fill(x, 2, 1, 2, 0, 0, 0, 0);
        due("mean(5, 0): 1 and 3 and 3 coins", 7, x.mean(5, 0));
        due("mean(5, 1): 1 and 3 and 3 coins", 3, x.mean(5, 1));
        due("mean(5, 2)", NO, x.mean(5, 2));
        due("mean(5, -1)", NO, x.mean(5, -1));
        due("mean(0, 0)", NO, x.mean(0, 0));
        due("mean(200, 1)", NO, x.mean(200, 1));
        due("of(0, 2): nothing changed", 0, x.of(0, 2));
    }

    private static void book(RidCoppers x) {
        due("book(0, 5)", NONE, x.book(0, 5));
        due("book(-1, 1000) of an empty one", 0, x.book(-1, 1000));
        x.payer(PAYER, 0);
        due("book(1, 0)", NONE, x.book(1, 0));
        due("book(-2, 0)", NONE, x.book(-2, 0));
        due("book(0, 0)", BAD, x.book(0, 0));
        due("book(0, 200)", BAD, x.book(0, 200));
        for (int i = 1; i <= 8; i++) {
            due("book(0, 199)", i, x.book(0, 199));
        }
        due("book(0, 5), the ninth", FULL, x.book(0, 5));
        due("book(0, 0), the ninth", BAD, x.book(0, 0));
        due("book(1, 5), the ninth", NONE, x.book(1, 5));
        due("count(4)", 8, x.count(4));
        due("book(-1, 1000)", 0, x.book(-1, 1000));
        due("count(4)", 0, x.count(4));
    }

    private static void looked(RidCoppers x) {
        due("looked() at no book", NOBODY, x.looked());
        x.payer(PAYER, 0);
        x.payer(PAYER, 0);
        x.purse(0, 5, 1);
        fill(x, 1, 5, 0, 0, 0, 0, 0);
        fillTill(x, 0, 0, 0, 0, 9, 9);
        x.book(0, 49);
        due("looked(): 1 is not in the till", 0, x.looked());
        x.book(-1, 0);
        x.book(1, 1);
        x.book(0, 49);
        due("looked(): 1 came to the till", NOBODY, x.looked());
        x.book(0, 2);
        due("looked(): the third can not be paid", 2, x.looked());
        x.book(1, 1);
        due("looked(): the first of them", 2, x.looked());
        due("of(1, 10): nothing changed", 5, x.of(1, 10));
        due("told(10): nothing changed", 0, x.told(10));
    }

    private static void judge(RidCoppers x) {
        due("judge(6, 0)", NONE, x.judge(6, 0));
        due("judge(-1, 0)", NONE, x.judge(-1, 0));
        due("judge(0, 0) of nothing", 100, x.judge(0, 0));
        x.tape(1, 1, 9);
        due("judge(1, 0) of shorts", CAST, x.judge(1, 0));
        due("judge(1, -1) of shorts", CAST, x.judge(1, -1));
        x.tape(0, 0, 8);
        due("judge(0, -1)", 100, x.judge(0, -1));
        due("judge(0, 8)", 100, x.judge(0, 8));
        due("judge(0, MAX)", 100, x.judge(0, Integer.MAX_VALUE));
        due("judge(0, 0)", 0, x.judge(0, 0));
        for (int i = 1; i < 8; i++) {
            x.item(0, i, 9);
        }
        due("judge(0, 1): all alike", NOBODY, x.judge(0, 1));
        due("judge(0, 2): all alike", NOBODY, x.judge(0, 2));
        due("judge(0, 3): five looked at", 105, x.judge(0, 3));
        due("judge(0, 7): one looked at", 101, x.judge(0, 7));
        x.till(5, 8);
        due("judge(0, 2): the last is otherwise", 5, x.judge(0, 2));
        due("judge(0, 3): it ends ahead of that", 105, x.judge(0, 3));
        x.till(3, 8);
        due("judge(0, 3): the fourth is otherwise", 3, x.judge(0, 3));
        x.tape(0, -1, 0);
        due("judge(0, 3) of nothing", 100, x.judge(0, 3));
    }

    private static void image(RidCoppers x) {
        due("image() of nobody", 0, x.image());
        x.payer(PAYER, 0);
        x.payer(TOLD, 0);
        due("image()", 2, x.image());
        x.payer(EXACT, 0);
        due("image()", 3, x.image());
        due("undo(): the latest image", 3, x.undo());
    }

    private static void undo(RidCoppers x) {
        due("undo()", STATE, x.undo());
        x.payer(TOLD, 3);
        x.row(0, 1, 4);
        fill(x, 0, 1, 1, 1, 1, 1, 1);
        x.till(2, 50);
        x.price(11);
        x.see(12, 13);
        x.book(0, 14);
        townOf(x, "heft 1 s=0");
        x.image();
        x.payer(LIGHT, 5);
        fill(x, 1, 5, 5, 5, 5, 5, 5);
        x.pay(0, 10);
        x.row(0, 1, 2);
        x.till(2, 0);
        x.price(15);
        x.see(-1, 0);
        x.book(1, 16);
        townOf(x, "heft 2 s=0");
        x.act(0, 0, 0);
        x.feed('m');
        x.tape(0, 0, 3);
        due("undo()", 1, x.undo());
        due("count(0)", 1, x.count(0));
        due("count(1): towns stay", 2, x.count(1));
        due("count(2)", 1, x.count(2));
        due("count(3)", 1, x.count(3));
        due("count(4)", 1, x.count(4));
        due("count(5): the text stays", 1, x.count(5));
        due("count(6): the trace stays", 2, x.count(6));
        due("read(0, 2): tapes stay", 0, x.read(0, 2));
        due("told(20): the first town holds", 1, x.told(20));
        due("told(12)", 50, x.told(12));
        due("of(0, 2)", 0, x.of(0, 2));
        due("of(0, 4)", 6, x.of(0, 4));
        due("row(0, 1, 4)", 4, x.row(0, 1, 4));
        due("payer(WILD, 6)", 1, x.payer(WILD, 6));
        due("of(1, 0)", WILD, x.of(1, 0));
        due("of(1, 1)", 6, x.of(1, 1));
        due("of(1, 4): a new purse", 0, x.of(1, 4));
        x.pay(0, 10);
        due("undo() once more", 1, x.undo());
        due("of(0, 2)", 0, x.of(0, 2));
        due("the next town's number", 2, townOf(x, "ost 1"));
        RidCoppers y = new RidCoppers();
        y.image();
        townOf(y, "most 1");
        y.undo();
        due("told(0): no town holds", 2, y.told(0));
    }

    private static void act(RidCoppers x) {
        due("act(0, 0, 7) of nobody", 0, x.act(0, 0, 7));
        x.payer(PAYER, 0);
        int[][] answers = {
            {11, 6, 12}, {11, 0, 0}, {31, 26, 52}, {11, 6, 9}, {-11, -23, -46}, {31, 26, 46}, {14, 12, 29}};
        for (int kind = 0; kind < 7; kind++) {
            RidCoppers y = new RidCoppers();
            y.payer(0, 0);
            y.payer(kind, 5);
            for (int act = 0; act < 3; act++) {
                due("act(1, " + act + ", 10) of kind " + kind, answers[kind][act], y.act(1, act, 10));
            }
        }
        x.payer(ROUGH, 9);
        due("act(1, 0, MAX): wraps", Integer.MAX_VALUE * 3 + 1, x.act(1, 0, Integer.MAX_VALUE));
        due("act(1, 2, MIN): wraps", (Integer.MIN_VALUE * 3 + 1 - 9) * 2, x.act(1, 2, Integer.MIN_VALUE));
        due("act(0, 3, 5)", 0, x.act(0, 3, 5));
        due("act(0, -1, 5)", 0, x.act(0, -1, 5));
        due("act(2, 0, 5)", 0, x.act(2, 0, 5));
        due("act(-1, 0, 5)", 0, x.act(-1, 0, 5));
    }

    private static void trace(RidCoppers x) {
        int[][][] bodies = {
            {{10}, {11, 10}, {12, 11, 10}},
            {{10}, {20, 11, 10}, {12, 20, 11, 10}},
            {{30, 10}, {11, 30, 10}, {12, 11, 30, 10}},
            {{10}, {11, 10}, {40, 12, 11, 10, 11, 10}},
            {{50, 10}, {51, 20, 11, 50, 10}, {12, 51, 20, 11, 50, 10}},
            {{30, 10}, {11, 30, 10}, {60, 12, 11, 30, 10}},
            {{71, 10}, {70, 11, 71, 10, 10}, {40, 12, 70, 11, 71, 10, 10, 70, 11, 71, 10, 10}}};
        for (int kind = 0; kind < 7; kind++) {
            RidCoppers y = new RidCoppers();
            y.payer(kind, 1);
            for (int act = 0; act < 3; act++) {
                int[] want = bodies[kind][act];
                y.act(0, act, 3);
                due("count(6)", want.length, y.count(6));
                for (int i = 0; i < want.length; i++) {
                    due("trace(" + i + ") of kind " + kind + ", act " + act, want[i], y.trace(i));
                }
                due("trace behind its end", NONE, y.trace(want.length));
                due("trace(-1)", NONE, y.trace(-1));
                due("trace(20)", NONE, y.trace(20));
            }
            y.act(0, 3, 3);
            due("trace(0) behind no such act", NONE, y.trace(0));
            due("count(6) behind no such act", 0, y.count(6));
            y.act(0, 0, 3);
            y.act(1, 0, 3);
            due("trace(0) behind no such payer", NONE, y.trace(0));
        }
        due("trace(0)", NONE, x.trace(0));
    }

    private static void taken(RidCoppers x) {
        int[][] above = {{0}, {0, 1}, {0, 2}, {0, 3}, {0, 1, 4}, {0, 2, 5}, {0, 3, 6}};
        for (int kind = 0; kind < 7; kind++) {
            RidCoppers y = new RidCoppers();
            y.payer(kind, 0);
            for (int k = 0; k < 7; k++) {
                boolean is = false;
                for (int a : above[kind]) {
                    is = is || a == k;
                }
                due("taken(0, " + k + ") of kind " + kind, is ? kind : CAST, y.taken(0, k));
            }
            due("taken(0, 7)", BAD, y.taken(0, 7));
            due("taken(0, -1)", BAD, y.taken(0, -1));
            due("taken(1, 0)", NOTHING, y.taken(1, 0));
        }
        due("taken(0, 7) of nobody", BAD, x.taken(0, 7));
        due("taken(-1, 0)", NOTHING, x.taken(-1, 0));
    }

    private static void count(RidCoppers x) {
        due("count(-1)", BAD, x.count(-1));
        due("count(7)", BAD, x.count(7));
        x.payer(TOLD, 0);
        x.payer(TOLD, 0);
        townOf(x, "most 1");
        townOf(x, "most 1");
        townOf(x, "most 1");
        x.price(1);
        x.see(1, 1);
        x.see(1, 1);
        x.book(0, 1);
        x.book(0, 1);
        x.book(0, 1);
        feedAll(x, "12345");
        x.act(0, 2, 0);
        int[] want = {2, 3, 1, 2, 3, 5, 12};
        for (int what = 0; what < 7; what++) {
            due("count(" + what + ")", want[what], x.count(what));
        }
    }

    private static void tape(RidCoppers x) {
        due("tape(6, 9, -1)", NONE, x.tape(6, 9, -1));
        due("tape(-1, 0, 0)", NONE, x.tape(-1, 0, 0));
        due("tape(0, 5, -1)", BAD, x.tape(0, 5, -1));
        due("tape(0, -2, 0)", BAD, x.tape(0, -2, 0));
        due("tape(0, 0, 61)", BAD, x.tape(0, 0, 61));
        due("tape(0, 0, -1)", SIZE, x.tape(0, 0, -1));
        due("tape(0, 0, MIN)", SIZE, x.tape(0, 0, Integer.MIN_VALUE));
        due("item(0, 0, 1): still nothing", NOTHING, x.item(0, 0, 1));
        for (int sort = 0; sort < 5; sort++) {
            due("tape(5, sort, 60)", 1, x.tape(5, sort, 60));
            due("item(5, 59, 1)", 1, x.item(5, 59, 1));
            due("tape(5, sort, 60)", 1, x.tape(5, sort, 60));
            due("read(5, 59): all 0", 0, x.read(5, 59));
        }
        due("tape(5, 5, 3): refused", BAD, x.tape(5, 5, 3));
        due("read(5, 59): as it was", 0, x.read(5, 59));
        due("tape(5, 0, 0)", 1, x.tape(5, 0, 0));
        due("read(5, 0) of a row of none", NO, x.read(5, 0));
        due("item(5, 0, 1) of a row of none", PLACE, x.item(5, 0, 1));
        due("tape(5, -1, 99)", 1, x.tape(5, -1, 99));
        due("tape(5, -1, -99)", 1, x.tape(5, -1, -99));
        due("item(5, 0, 1) of nothing", NOTHING, x.item(5, 0, 1));
    }

    private static void item(RidCoppers x) {
        long[] values = {200, -1, 70000, 0x1_8000_0000L, Long.MIN_VALUE, 256, 0};
        for (int sort = 0; sort < 5; sort++) {
            x.tape(sort, sort, 2);
            for (long v : values) {
                long[] want = {(byte) v, (short) v, (int) v, v, v != 0 ? 1 : 0};
                due("item(" + sort + ", 1, " + v + ")", 1, x.item(sort, 1, v));
                due("read(" + sort + ", 1)", want[sort], x.read(sort, 1));
                due("read(" + sort + ", 0)", 0, x.read(sort, 0));
            }
            due("item(sort, 2, 0)", PLACE, x.item(sort, 2, 0));
            due("item(sort, -1, 0)", PLACE, x.item(sort, -1, 0));
        }
        due("item(5, -1, 0)", NOTHING, x.item(5, -1, 0));
        due("item(6, 0, 0)", NONE, x.item(6, 0, 0));
        due("item(-1, 0, 0)", NONE, x.item(-1, 0, 0));
    }

    private static void read(RidCoppers x) {
        x.tape(2, 3, 2);
        x.item(2, 1, 77);
        due("read(2, 1)", 77, x.read(2, 1));
        due("read(2, 2)", NO, x.read(2, 2));
        due("read(2, -1)", NO, x.read(2, -1));
        due("read(3, 0)", NO, x.read(3, 0));
        due("read(6, 0)", NO, x.read(6, 0));
        due("read(-1, 0)", NO, x.read(-1, 0));
        x.tape(2, -1, 0);
        due("read(2, 0) of nothing", NO, x.read(2, 0));
        due("read(2, 1) of nothing", NO, x.read(2, 1));
    }

    private static void shift(RidCoppers x) {
        x.tape(0, 1, 5);
        x.tape(1, 1, 3);
        x.tape(2, 2, 5);
        for (int i = 0; i < 5; i++) {
            x.item(0, i, 10 + i);
        }
        due("shift(0, 0, 0, 1, 4) onto itself", 4, x.shift(0, 0, 0, 1, 4));
        long[] on = {10, 10, 11, 12, 13};
        for (int i = 0; i < 5; i++) {
            due("read(0, " + i + ")", on[i], x.read(0, i));
        }
        due("shift(0, 2, 0, 0, 3) onto itself", 3, x.shift(0, 2, 0, 0, 3));
        long[] back = {11, 12, 13, 12, 13};
        for (int i = 0; i < 5; i++) {
            due("read(0, " + i + ")", back[i], x.read(0, i));
        }
        due("shift(0, 1, 1, 0, 3)", 3, x.shift(0, 1, 1, 0, 3));
        due("read(1, 2)", 12, x.read(1, 2));
        due("shift(0, 5, 1, 3, 0)", 0, x.shift(0, 5, 1, 3, 0));
        due("shift(0, 6, 1, 0, 0)", PLACE, x.shift(0, 6, 1, 0, 0));
        due("shift(0, 0, 1, 0, 4)", PLACE, x.shift(0, 0, 1, 0, 4));
        due("shift(0, 3, 1, 0, 3)", PLACE, x.shift(0, 3, 1, 0, 3));
        due("shift(0, -1, 1, 0, 1)", PLACE, x.shift(0, -1, 1, 0, 1));
        due("shift(0, 0, 1, -1, 1)", PLACE, x.shift(0, 0, 1, -1, 1));
        due("shift(0, 0, 1, 0, -1)", PLACE, x.shift(0, 0, 1, 0, -1));
        due("shift(0, MAX, 1, 0, MAX)", PLACE, x.shift(0, Integer.MAX_VALUE, 1, 0, Integer.MAX_VALUE));
        due("shift(0, 0, 2, 9, 9)", CAST, x.shift(0, 0, 2, 9, 9));
        due("shift(0, 0, 3, 9, 9)", NOTHING, x.shift(0, 0, 3, 9, 9));
        due("shift(3, 0, 0, 0, 0)", NOTHING, x.shift(3, 0, 0, 0, 0));
        due("shift(3, 0, 6, 0, 0)", NONE, x.shift(3, 0, 6, 0, 0));
        due("shift(-1, 0, 3, 0, 0)", NONE, x.shift(-1, 0, 3, 0, 0));
    }
}
