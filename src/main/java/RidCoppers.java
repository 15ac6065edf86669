/**
 * Rid of the coppers: purses of coins, prices, a till that gives back greatest first, payers of
 * kinds who hand over this or that, and towns that say how heavy coins are and how many one keeps.
 *
 * <p>What the calls answer is told by the project's document; words in capitals are its terms.
 */
public final class RidCoppers {
    public static final int NONE = -1, BAD = -2, STATE = -3, FULL = -4;
    public static final long NO = Long.MIN_VALUE;

    private static final int NOBODY = -5;
    private static final int NOTHING = -11, CAST = -12, PLACE = -13, SIZE = -14;
    private static final int FAULT = -10;
    private static final int MORE_NONE = -100001, MORE_BAD = -100002;
    private static final int JUDGED_END = 100;

    private static final int SORTS = 6, PAYERS = 4, KINDS = 7, PARTS = 4;
    private static final int EXACT = 1, ROUGH = 2, KEEPER = 3, LIGHT = 4, WILD = 5, TOLD = 6;
    private static final int MOST_OF_A_SORT = 99, MOST_PAID = 9999, HIGHEST_V = 9;
    private static final int HIGHEST_PRICE = 199;
    private static final int PRICES = 4, SEEN = 4, BOOK = 8, TOWNS = 6;
    private static final int TEXT = 100, HIGHEST_SIGN = 127, CLAUSES = 10, NESTS = 4;
    private static final int DEFAULT_MOST = 2, HIGHEST_MOST = 2, LIGHTEST_HEFT = 2;
    private static final int TILL_AT_FIRST = 9;
    private static final int KEPT_TRACE = 20;
    private static final int TAPES = 6, HIGHEST_SIZE = 60;
    private static final int BYTES = 0, SHORTS = 1, INTS = 2, LONGS = 3, BOOLEANS = 4;
    /** Above every rank, weight and number of coins. */
    private static final int HUGE = 1000000000;
    private static final int[] WORTH = {1, 2, 5, 10, 20, 50};

    private final Town nowhere = new Town();
    private final World live = new World(nowhere);
    private final World saved = new World(nowhere);
    private final World trial = new World(nowhere);
    private boolean hasImage = false;
    private final Payment payment = new Payment();
    private final Town[] towns = new Town[TOWNS];
    private int townCount = 0;
    private final byte[] text = new byte[TEXT];
    private int textSize = 0;
    private final Trace latest = new Trace();
    private final int[] tapeSorts = new int[TAPES];
    private final int[] tapeSizes = new int[TAPES];
    private final long[][] tapeItems = new long[TAPES][HIGHEST_SIZE];

    public RidCoppers() {
        for (int s = 0; s < SORTS; s++) {
            live.till[s] = TILL_AT_FIRST;
        }
        for (int t = 0; t < TOWNS; t++) {
            towns[t] = new Town();
        }
        for (int t = 0; t < TAPES; t++) {
            tapeSorts[t] = NONE;
        }
    }

    // ---- payers, towns, tills

    public int payer(int kind, int v) {
        if (kind < 0 || kind >= KINDS) {
            return NONE;
        }
        if (v < 0 || v > HIGHEST_V) {
            return BAD;
        }
        if (live.payerCount >= PAYERS) {
            return FULL;
        }
        // an undo has emptied the purse again that another one of this number had
        int number = live.payerCount;
        live.payers[number] = newPayer(kind, number, v);
        live.payerCount++;
        return number;
    }

    public int of(int payer, int what) {
        Payer one = payerAt(payer);
        if (one == null) {
            return NONE;
        }
        if (isSort(what - 10)) {
            return live.purses[payer][what - 10];
        }
        if (isSort(what - 20)) {
            return live.town.kept(live, one, what - 20);
        }
        switch (what) {
            case 0: return one.kind;
            case 1: return one.v;
            case 2: return live.paid[payer];
            case 3: return live.weight(payer);
            case 4: return live.coins(payer);
            default: return NONE;
        }
    }

    public int purse(int payer, int sort, int n) {
        if (payerAt(payer) == null || !isSort(sort)) {
            return NONE;
        }
        return exchange(live.purses[payer], sort, n);
    }

    public int till(int sort, int n) {
        if (!isSort(sort)) {
            return NONE;
        }
        return exchange(live.till, sort, n);
    }

    public int row(int payer, int part, int n) {
        Payer one = payerAt(payer);
        if (one == null || part < 0 || part >= PARTS) {
            return NONE;
        }
        if (!isSort(n)) {
            return BAD;
        }
        if (one.kind != TOLD) {
            return STATE;
        }
        int was = live.rows[payer][part];
        live.rows[payer][part] = n;
        return was;
    }

    public int feed(int sign) {
        if (sign < 0 || sign > HIGHEST_SIGN) {
            return BAD;
        }
        if (textSize >= TEXT) {
            return FULL;
        }
        text[textSize] = (byte) sign;
        textSize++;
        return textSize;
    }

    public int town() {
        if (townCount >= TOWNS) {
            return FULL;
        }
        Town next = towns[townCount];
        int fault = next.faultOf(text, textSize);
        textSize = 0;
        if (fault != NONE) {
            return FAULT - fault;
        }
        live.town = next;
        townCount++;
        return townCount - 1;
    }

    public int told(int what) {
        if (what == 0) {
            return live.town.most;
        }
        if (isSort(what - 10)) {
            return live.till[what - 10];
        }
        if (isSort(what - 20)) {
            return live.town.hefts[what - 20];
        }
        return NONE;
    }

    // ---- payments

    public int pay(int payer, int price) {
        Payer one = payerAt(payer);
        if (one == null) {
            return NONE;
        }
        if (!isPrice(price)) {
            return BAD;
        }
        if (!payment.choose(live, one, price)) {
            return STATE;
        }
        payment.settle();
        return payment.coins;
    }

    public int would(int payer, int price, int what) {
        Payer one = payerAt(payer);
        boolean known = (what >= 0 && what <= 2) || isSort(what - 10) || isSort(what - 20);
        if (one == null || !known) {
            return NONE;
        }
        if (!isPrice(price)) {
            return BAD;
        }
        if (!payment.choose(live, one, price)) {
            return NOBODY;
        }
        if (isSort(what - 10)) {
            return payment.given[what - 10];
        }
        if (isSort(what - 20)) {
            return payment.back[what - 20];
        }
        if (what == 0) {
            return payment.sum;
        }
        return what == 1 ? payment.coinsBehind() : payment.weightBehind();
    }

    public int least(int payer, int price, int what) {
        Payer one = payerAt(payer);
        if (one == null || what < 0 || what > 1) {
            return NONE;
        }
        if (!isPrice(price)) {
            return BAD;
        }
        return payment.leastBehind(live, one, price, what == 0);
    }

    public int exactly(int payer) {
        Payer one = payerAt(payer);
        return one == null ? NONE : payment.exactPrices(live, one);
    }

    // ---- rows of prices

    public int price(int n) {
        if (n == NONE) {
            live.priceCount = 0;
            return 0;
        }
        if (!isPrice(n)) {
            return BAD;
        }
        if (live.priceCount >= PRICES) {
            return FULL;
        }
        live.prices[live.priceCount] = n;
        live.priceCount++;
        return live.priceCount;
    }

    public int behind(int payer, int what) {
        Payer one = payerAt(payer);
        if (one == null || what < 0 || what > 2) {
            return NONE;
        }
        int paid = payRowOnTrial(one);
        if (what == 2) {
            return paid;
        }
        return what == 0 ? trial.weight(payer) : trial.coins(payer);
    }

    public int who() {
        int best = NOBODY;
        int fewest = HUGE;
        for (int p = 0; p < live.payerCount; p++) {
            if (payRowOnTrial(live.payers[p]) == live.priceCount && trial.coins(p) < fewest) {
                fewest = trial.coins(p);
                best = p;
            }
        }
        return best;
    }

    public int next(int payer) {
        Payer one = payerAt(payer);
        if (one == null) {
            return NONE;
        }
        int best = NOBODY;
        int fewest = HUGE;
        for (int price = 1; price <= 30; price++) {
            if (payment.choose(live, one, price) && payment.coinsBehind() < fewest) {
                fewest = payment.coinsBehind();
                best = price;
            }
        }
        return best;
    }

    public int shortOf(int payer) {
        Payer one = payerAt(payer);
        if (one == null) {
            return NONE;
        }
        int worth = live.worth(payer);
        for (int price = 1; price <= 60 && price <= worth; price++) {
            if (!payment.canPay(live, one, price)) {
                return price;
            }
        }
        return NOBODY;
    }

    public int more(int payer, int price, int sort) {
        Payer one = payerAt(payer);
        if (one == null || !isSort(sort)) {
            return MORE_NONE;
        }
        if (!isPrice(price)) {
            return MORE_BAD;
        }
        if (!payment.choose(live, one, price)) {
            return 0;
        }
        int asItIs = payment.weightBehind();
        trial.become(live);
        trial.till[sort] = Math.min(MOST_OF_A_SORT, trial.till[sort] + 1);
        if (!payment.choose(trial, one, price)) {
            return 0;
        }
        return payment.weightBehind() - asItIs;
    }

    public int heaviest(int payer, int n) {
        Payer one = payerAt(payer);
        if (one == null) {
            return NONE;
        }
        if (n < 1 || n > 8) {
            return BAD;
        }
        trial.become(live);
        int greatest = trial.weight(payer);
        for (int k = 1; k <= n; k++) {
            if (payment.choose(trial, one, 7 * k)) {
                payment.settle();
                greatest = Math.max(greatest, trial.weight(payer));
            }
        }
        return greatest;
    }

    // ---- seen, odds, books

    public int see(int price, int coins) {
        if (price == NONE) {
            live.seenCount = 0;
            return 0;
        }
        if (!isPrice(price) || coins < 0 || coins > 99) {
            return BAD;
        }
        if (live.seenCount >= SEEN) {
            return FULL;
        }
        live.seenPrices[live.seenCount] = price;
        live.seenCoins[live.seenCount] = coins;
        live.seenCount++;
        return live.seenCount;
    }

    public int fits() {
        int bits = 0;
        for (int p = 0; p < live.payerCount; p++) {
            if (fitsAllSeen(live.payers[p])) {
                bits |= 1 << p;
            }
        }
        return bits;
    }

    public long odds(int payer, int part) {
        Payer one = payerAt(payer);
        if (one == null || part < 0 || part > 1) {
            return NO;
        }
        int payable = 0;
        for (int price = 1; price <= 20; price++) {
            if (payment.canPay(live, one, price)) {
                payable++;
            }
        }
        return partOfFraction(payable, 20, part);
    }

    public long mean(int price, int part) {
        if (!isPrice(price) || part < 0 || part > 1) {
            return NO;
        }
        int coins = 0;
        int people = 0;
        for (int p = 0; p < live.payerCount; p++) {
            if (payment.choose(live, live.payers[p], price)) {
                coins += payment.coins;
                people++;
            }
        }
        return people == 0 ? NO : partOfFraction(coins, people, part);
    }

    public int book(int payer, int price) {
        if (payer == NONE) {
            live.bookCount = 0;
            return 0;
        }
        if (payerAt(payer) == null) {
            return NONE;
        }
        if (!isPrice(price)) {
            return BAD;
        }
        if (live.bookCount >= BOOK) {
            return FULL;
        }
        live.bookPayers[live.bookCount] = payer;
        live.bookPrices[live.bookCount] = price;
        live.bookCount++;
        return live.bookCount;
    }

    public int looked() {
        trial.become(live);
        for (int i = 0; i < trial.bookCount; i++) {
            Payer one = payerAt(trial.bookPayers[i]);
            if (one == null || !payment.choose(trial, one, trial.bookPrices[i])) {
                return i;
            }
            payment.settle();
        }
        return NOBODY;
    }

    // ---- judging, the image, acts, tapes

    public int judge(int tape, int i) {
        if (!isTape(tape)) {
            return NONE;
        }
        if (tapeSorts[tape] == NONE) {
            return JUDGED_END;
        }
        if (tapeSorts[tape] != BYTES) {
            return CAST;
        }
        if (i < 0 || i >= tapeSizes[tape]) {
            return JUDGED_END;
        }
        for (int s = 0; s < SORTS; s++) {
            if (i + s >= tapeSizes[tape]) {
                return JUDGED_END + s;
            }
            if (tapeItems[tape][i + s] != live.till[s]) {
                return s;
            }
        }
        return NOBODY;
    }

    public int image() {
        saved.become(live);
        hasImage = true;
        return live.payerCount;
    }

    public int undo() {
        if (!hasImage) {
            return STATE;
        }
        live.become(saved);
        return live.payerCount;
    }

    public int act(int payer, int act, int x) {
        latest.ran = 0;
        Payer one = payerAt(payer);
        if (one == null) {
            return 0;
        }
        switch (act) {
            case 0: return one.counts(x, latest);
            case 1: return one.hands(x, latest);
            case 2: return one.tells(x, latest);
            default: return 0;
        }
    }

    public int trace(int i) {
        if (i < 0 || i >= latest.ran || i >= KEPT_TRACE) {
            return NONE;
        }
        return latest.bodies[i];
    }

    public int taken(int payer, int k) {
        if (k < 0 || k >= KINDS) {
            return BAD;
        }
        Payer one = payerAt(payer);
        if (one == null) {
            return NOTHING;
        }
        return isOfKind(one, k) ? one.kind : CAST;
    }

    public int count(int what) {
        switch (what) {
            case 0: return live.payerCount;
            case 1: return townCount;
            case 2: return live.priceCount;
            case 3: return live.seenCount;
            case 4: return live.bookCount;
            case 5: return textSize;
            case 6: return latest.ran;
            default: return BAD;
        }
    }

    public int tape(int tape, int sort, int n) {
        if (!isTape(tape)) {
            return NONE;
        }
        if (sort == NONE) {
            tapeSorts[tape] = NONE;
            tapeSizes[tape] = 0;
            return 1;
        }
        if (sort < BYTES || sort > BOOLEANS || n > HIGHEST_SIZE) {
            return BAD;
        }
        if (n < 0) {
            return SIZE;
        }
        tapeSorts[tape] = sort;
        tapeSizes[tape] = n;
        for (int i = 0; i < n; i++) {
            tapeItems[tape][i] = 0;
        }
        return 1;
    }

    public int item(int tape, int i, long v) {
        if (!isTape(tape)) {
            return NONE;
        }
        if (tapeSorts[tape] == NONE) {
            return NOTHING;
        }
        if (i < 0 || i >= tapeSizes[tape]) {
            return PLACE;
        }
        tapeItems[tape][i] = narrowed(tapeSorts[tape], v);
        return 1;
    }

    public long read(int tape, int i) {
        if (!isTape(tape) || i < 0 || i >= tapeSizes[tape]) {
            return NO;
        }
        return tapeItems[tape][i];
    }

    public int shift(int tape, int i, int other, int j, int n) {
        if (!isTape(tape) || !isTape(other)) {
            return NONE;
        }
        if (tapeSorts[tape] == NONE || tapeSorts[other] == NONE) {
            return NOTHING;
        }
        if (tapeSorts[tape] != tapeSorts[other]) {
            return CAST;
        }
        if (!isStretch(tapeSizes[tape], i, n) || !isStretch(tapeSizes[other], j, n)) {
            return PLACE;
        }
        System.arraycopy(tapeItems[tape], i, tapeItems[other], j, n);
        return n;
    }

    // ---- what the calls share

    private Payer payerAt(int number) {
        if (number < 0 || number >= live.payerCount) {
            return null;
        }
        return live.payers[number];
    }

    private static Payer newPayer(int kind, int number, int v) {
        switch (kind) {
            case EXACT: return new Exact(EXACT, number, v);
            case ROUGH: return new Rough(ROUGH, number, v);
            case KEEPER: return new Keeper(KEEPER, number, v);
            case LIGHT: return new Light(number, v);
            case WILD: return new Wild(number, v);
            case TOLD: return new Told(number, v);
            default: return new Payer(0, number, v);
        }
    }

    private static boolean isOfKind(Payer one, int kind) {
        switch (kind) {
            case EXACT: return one instanceof Exact;
            case ROUGH: return one instanceof Rough;
            case KEEPER: return one instanceof Keeper;
            case LIGHT: return one instanceof Light;
            case WILD: return one instanceof Wild;
            case TOLD: return one instanceof Told;
            default: return kind == 0;
        }
    }

    private static boolean isSort(int sort) {
        return sort >= 0 && sort < SORTS;
    }

    private static boolean isPrice(int price) {
        return price >= 1 && price <= HIGHEST_PRICE;
    }

    private static boolean isTape(int tape) {
        return tape >= 0 && tape < TAPES;
    }

    private static boolean isStretch(int size, int from, int n) {
        return n >= 0 && from >= 0 && n <= size && from <= size - n;
    }

    /** What the counts of a sort were; they become n, if n can be that many. */
    private static int exchange(int[] counts, int sort, int n) {
        if (n < 0 || n > MOST_OF_A_SORT) {
            return BAD;
        }
        int was = counts[sort];
        counts[sort] = n;
        return was;
    }

    /** Leaves on the trial what is behind the row of prices; how many of them were paid. */
    private int payRowOnTrial(Payer one) {
        trial.become(live);
        int paid = 0;
        for (int i = 0; i < trial.priceCount; i++) {
            if (payment.choose(trial, one, trial.prices[i])) {
                payment.settle();
                paid++;
            }
        }
        return paid;
    }

    private boolean fitsAllSeen(Payer one) {
        for (int i = 0; i < live.seenCount; i++) {
            if (!payment.choose(live, one, live.seenPrices[i])
                    || payment.coinsBehind() != live.seenCoins[i]) {
                return false;
            }
        }
        return true;
    }

    private static long partOfFraction(int above, int below, int part) {
        int divisor = commonDivisor(above, below);
        if (divisor == 0) {
            return NO;
        }
        return (part == 0 ? above : below) / divisor;
    }

    private static int commonDivisor(int a, int b) {
        int great = a;
        int small = b;
        for (int step = 0; step < 100 && small != 0; step++) {
            int rest = great % small;
            great = small;
            small = rest;
        }
        return great;
    }

    private static long narrowed(int sort, long v) {
        switch (sort) {
            case BYTES: return (byte) v;
            case SHORTS: return (short) v;
            case INTS: return (int) v;
            case LONGS: return v;
            default: return v != 0 ? 1 : 0;
        }
    }

    /** All that a payment changes and an image holds: there is one that lives, and copies of it. */
    private static final class World {
        final Payer[] payers = new Payer[PAYERS];
        int payerCount = 0;
        final int[][] purses = new int[PAYERS][SORTS];
        final int[][] rows = new int[PAYERS][PARTS];
        final int[] paid = new int[PAYERS];
        final int[] till = new int[SORTS];
        final int[] prices = new int[PRICES];
        int priceCount = 0;
        final int[] seenPrices = new int[SEEN];
        final int[] seenCoins = new int[SEEN];
        int seenCount = 0;
        final int[] bookPayers = new int[BOOK];
        final int[] bookPrices = new int[BOOK];
        int bookCount = 0;
        Town town;

        World(Town town) {
            this.town = town;
        }

        void become(World other) {
            for (int p = 0; p < PAYERS; p++) {
                payers[p] = other.payers[p];
                paid[p] = other.paid[p];
                System.arraycopy(other.purses[p], 0, purses[p], 0, SORTS);
                System.arraycopy(other.rows[p], 0, rows[p], 0, PARTS);
            }
            payerCount = other.payerCount;
            System.arraycopy(other.till, 0, till, 0, SORTS);
            System.arraycopy(other.prices, 0, prices, 0, PRICES);
            priceCount = other.priceCount;
            System.arraycopy(other.seenPrices, 0, seenPrices, 0, SEEN);
            System.arraycopy(other.seenCoins, 0, seenCoins, 0, SEEN);
            seenCount = other.seenCount;
            System.arraycopy(other.bookPayers, 0, bookPayers, 0, BOOK);
            System.arraycopy(other.bookPrices, 0, bookPrices, 0, BOOK);
            bookCount = other.bookCount;
            town = other.town;
        }

        int weight(int payer) {
            int weight = 0;
            for (int s = 0; s < SORTS; s++) {
                weight += purses[payer][s] * town.hefts[s];
            }
            return weight;
        }

        int coins(int payer) {
            int coins = 0;
            for (int s = 0; s < SORTS; s++) {
                coins += purses[payer][s];
            }
            return coins;
        }

        int worth(int payer) {
            int worth = 0;
            for (int s = 0; s < SORTS; s++) {
                worth += purses[payer][s] * WORTH[s];
            }
            return worth;
        }
    }

    /** Goes through the hands of a payer as rows, and holds the one that it stands at. */
    private static final class Payment {
        final int[] limits = new int[SORTS];
        final int[] given = new int[SORTS];
        final int[] back = new int[SORTS];
        final int[] bestGiven = new int[SORTS];
        final int[] bestBack = new int[SORTS];
        World world = null;
        Payer payer = null;
        int price = 0;
        int sum = 0;
        int coins = 0;

        /** Stands at what the payer hands over then; false, if no hand pays. */
        boolean choose(World world, Payer payer, int price) {
            int hands = begin(world, payer, true);
            this.price = price;
            boolean ranksEarly = !payer.thinksOfWeight();
            long best = HUGE;
            for (int h = 0; h < hands; h++) {
                // what comes back is dear to know, and matters to few
                boolean hopeless = sum < price || (ranksEarly && payer.rank(this) >= best);
                if (!hopeless && pays()) {
                    long rank = payer.rank(this);
                    if (rank < best) {
                        best = rank;
                        System.arraycopy(given, 0, bestGiven, 0, SORTS);
                        System.arraycopy(back, 0, bestBack, 0, SORTS);
                    }
                }
                advance();
            }
            if (best == HUGE) {
                return false;
            }
            standAtBest();
            return true;
        }

        boolean canPay(World world, Payer payer, int price) {
            int hands = begin(world, payer, true);
            this.price = price;
            for (int h = 0; h < hands; h++) {
                if (pays()) {
                    return true;
                }
                advance();
            }
            return false;
        }

        /** The least weight, or the fewest coins, behind any hand of any sorts that pays. */
        int leastBehind(World world, Payer payer, int price, boolean byWeight) {
            int hands = begin(world, payer, false);
            this.price = price;
            int least = HUGE;
            for (int h = 0; h < hands; h++) {
                if (pays()) {
                    least = Math.min(least, byWeight ? weightBehind() : coinsBehind());
                }
                advance();
            }
            return least == HUGE ? NOBODY : least;
        }

        /** How many prices, 1 to 60, are the sum of a hand that pays them: a bit for each. */
        int exactPrices(World world, Payer payer) {
            int hands = begin(world, payer, false);
            long prices = 0;
            for (int h = 0; h < hands; h++) {
                price = sum;
                if (sum >= 1 && sum <= 60 && pays()) {
                    prices |= 1L << sum;
                }
                advance();
            }
            return Long.bitCount(prices);
        }

        /** The payment is made in the world that it was chosen in. */
        void settle() {
            int p = payer.number;
            for (int s = 0; s < SORTS; s++) {
                world.till[s] += given[s] - back[s];
                world.purses[p][s] += back[s] - given[s];
            }
            world.paid[p] = Math.min(MOST_PAID, world.paid[p] + 1);
        }

        int coinsBehind() {
            int behind = world.coins(payer.number) - coins;
            for (int s = 0; s < SORTS; s++) {
                behind += back[s];
            }
            return behind;
        }

        int weightBehind() {
            int weight = 0;
            for (int s = 0; s < SORTS; s++) {
                weight += purseBehind(s) * world.town.hefts[s];
            }
            return weight;
        }

        private int purseBehind(int sort) {
            return world.purses[payer.number][sort] - given[sort] + back[sort];
        }

        /** Stands at the first hand, which is empty; how many hands there are. */
        private int begin(World world, Payer payer, boolean own) {
            this.world = world;
            this.payer = payer;
            sum = 0;
            coins = 0;
            int hands = 1;
            for (int s = 0; s < SORTS; s++) {
                given[s] = 0;
                back[s] = 0;
                int free = world.purses[payer.number][s] - world.town.kept(world, payer, s);
                boolean parts = !own || payer.partsWith(world, s);
                limits[s] = parts ? Math.max(0, Math.min(world.town.most, free)) : 0;
                hands *= limits[s] + 1;
            }
            return hands;
        }

        /** On to the next hand as rows: the last sort counts on first. */
        private void advance() {
            for (int s = SORTS - 1; s >= 0; s--) {
                if (given[s] < limits[s]) {
                    given[s]++;
                    sum += WORTH[s];
                    coins++;
                    return;
                }
                sum -= given[s] * WORTH[s];
                coins -= given[s];
                given[s] = 0;
            }
        }

        /** Whether the hand pays; back is what comes back then. */
        private boolean pays() {
            int left = sum - price;
            if (left < 0) {
                return false;
            }
            for (int s = SORTS - 1; s >= 0; s--) {
                back[s] = Math.min(world.till[s] + given[s], left / WORTH[s]);
                left -= back[s] * WORTH[s];
            }
            return left == 0 && nothingOverflows();
        }

        private boolean nothingOverflows() {
            for (int s = 0; s < SORTS; s++) {
                if (world.till[s] + given[s] - back[s] > MOST_OF_A_SORT
                        || purseBehind(s) > MOST_OF_A_SORT) {
                    return false;
                }
            }
            return true;
        }

        private void standAtBest() {
            sum = 0;
            coins = 0;
            for (int s = 0; s < SORTS; s++) {
                given[s] = bestGiven[s];
                back[s] = bestBack[s];
                sum += given[s] * WORTH[s];
                coins += given[s];
            }
        }
    }

    /** The clauses of a town; without any it is as where no town holds. */
    private static final class Town {
        private static final int HEFT = 0, KEEP = 1, MOST = 2;
        private static final int OR = 0, AND = 1, NOT = 2, FIRST_TEST = 3;
        private static final String LETTERS = "swtpkd", SIGNS = "<=>";

        final int[] hefts = new int[SORTS];
        int most = DEFAULT_MOST;
        private final int[] words = new int[CLAUSES];
        private final int[] numbers = new int[CLAUSES];
        private final int[] starts = new int[CLAUSES];
        private final int[] ends = new int[CLAUSES];
        private int clauseCount = 0;
        /** What holds, as the clauses tell it: operands first, then what joins them. */
        private final int[] code = new int[TEXT];
        private int codeSize = 0;
        private final int[] facts = new int[6];
        private byte[] text = null;
        private int size = 0;
        private int at = 0;

        Town() {
            for (int s = 0; s < SORTS; s++) {
                hefts[s] = LIGHTEST_HEFT + s;
            }
        }

        /** Becomes the town that the text tells: NONE, or the place of the fault. */
        int faultOf(byte[] text, int size) {
            this.text = text;
            this.size = size;
            at = 0;
            codeSize = 0;
            clauseCount = 0;
            boolean fine = clause();
            for (int c = 1; c < CLAUSES && fine && at < size; c++) {
                fine = takes(';') && clause();
            }
            if (!fine || at < size) {
                return at;
            }
            findMost();
            findHefts();
            return NONE;
        }

        int kept(World world, Payer payer, int sort) {
            factsOf(sort);
            facts[2] = world.till[sort];
            facts[3] = payer.number;
            facts[4] = payer.kind;
            facts[5] = world.paid[payer.number] % 7;
            return together(KEEP);
        }

        private void findMost() {
            most = DEFAULT_MOST;
            for (int c = 0; c < clauseCount; c++) {
                if (words[c] == MOST) {
                    most = Math.min(HIGHEST_MOST, numbers[c]);
                }
            }
        }

        private void findHefts() {
            boolean told = false;
            for (int c = 0; c < clauseCount; c++) {
                told = told || words[c] == HEFT;
            }
            for (int s = 0; s < SORTS; s++) {
                factsOf(s);
                hefts[s] = told ? together(HEFT) : LIGHTEST_HEFT + s;
            }
        }

        private void factsOf(int sort) {
            facts[0] = sort;
            facts[1] = WORTH[sort];
            for (int f = 2; f < facts.length; f++) {
                facts[f] = 0;
            }
        }

        private int together(int word) {
            int sum = 0;
            for (int c = 0; c < clauseCount; c++) {
                if (words[c] == word && holds(starts[c], ends[c])) {
                    sum += numbers[c];
                }
            }
            return sum;
        }

        /** The bits are a stack, its top the lowest: nesting keeps it far below 32. */
        private boolean holds(int start, int end) {
            int bits = 0;
            for (int c = start; c < end; c++) {
                int op = code[c];
                if (op >= FIRST_TEST) {
                    bits = bits << 1 | (testHolds(op - FIRST_TEST) ? 1 : 0);
                } else if (op == NOT) {
                    bits ^= 1;
                } else {
                    int top = bits & 1;
                    bits = bits >>> 1;
                    if (op == OR) {
                        bits |= top;
                    } else if (top == 0) {
                        bits &= ~1;
                    }
                }
            }
            return (bits & 1) != 0;
        }

        private boolean testHolds(int test) {
            int fact = facts[test / 300];
            int number = test % 100;
            switch (test / 100 % 3) {
                case 0: return fact < number;
                case 1: return fact == number;
                default: return fact > number;
            }
        }

        private boolean clause() {
            int c = clauseCount;
            int first = ahead();
            words[c] = first == 'h' ? HEFT : first == 'k' ? KEEP : MOST;
            starts[c] = codeSize;
            if (!takesWord(words[c]) || !takes(' ')) {
                return false;
            }
            numbers[c] = number();
            if (numbers[c] < 0) {
                return false;
            }
            if (words[c] != MOST && !(takes(' ') && either(0))) {
                return false;
            }
            ends[c] = codeSize;
            clauseCount++;
            return true;
        }

        private boolean takesWord(int word) {
            String signs = word == HEFT ? "heft" : word == KEEP ? "keep" : "most";
            for (int i = 0; i < signs.length(); i++) {
                if (!takes(signs.charAt(i))) {
                    return false;
                }
            }
            return true;
        }

        /** E: depth is how many ( and ! stand around it. */
        private boolean either(int depth) {
            boolean fine = both(depth);
            for (int n = 0; n < TEXT && fine && ahead() == '|'; n++) {
                at++;
                fine = both(depth);
                emit(OR);
            }
            return fine;
        }

        /** T. */
        private boolean both(int depth) {
            boolean fine = single(depth);
            for (int n = 0; n < TEXT && fine && ahead() == '&'; n++) {
                at++;
                fine = single(depth);
                emit(AND);
            }
            return fine;
        }

        /** F. */
        private boolean single(int depth) {
            int sign = ahead();
            if (sign != '!' && sign != '(') {
                return test();
            }
            if (depth >= NESTS) {
                return false;
            }
            at++;
            if (sign == '(') {
                return either(depth + 1) && takes(')');
            }
            boolean fine = single(depth + 1);
            emit(NOT);
            return fine;
        }

        private boolean test() {
            int letter = takesOneOf(LETTERS);
            if (letter < 0) {
                return false;
            }
            int sign = takesOneOf(SIGNS);
            if (sign < 0) {
                return false;
            }
            int number = number();
            if (number < 0) {
                return false;
            }
            emit(FIRST_TEST + letter * 300 + sign * 100 + number);
            return true;
        }

        /** A number of one or two digits; NONE, if there is none. */
        private int number() {
            if (!isDigitAhead()) {
                return NONE;
            }
            int number = ahead() - '0';
            at++;
            if (isDigitAhead()) {
                number = number * 10 + ahead() - '0';
                at++;
            }
            return number;
        }

        private boolean isDigitAhead() {
            return ahead() >= '0' && ahead() <= '9';
        }

        private boolean takes(char sign) {
            if (ahead() != sign) {
                return false;
            }
            at++;
            return true;
        }

        private int takesOneOf(String signs) {
            int sign = ahead();
            int index = sign < 0 ? NONE : signs.indexOf((char) sign);
            if (index >= 0) {
                at++;
            }
            return index;
        }

        private int ahead() {
            return text != null && at < size && at < text.length ? text[at] : NONE;
        }

        private void emit(int op) {
            if (codeSize < code.length) {
                code[codeSize] = op;
                codeSize++;
            }
        }
    }

    /** The bodies that ran in the latest act. */
    private static final class Trace {
        final int[] bodies = new int[KEPT_TRACE];
        int ran = 0;

        void begins(int body) {
            if (ran < KEPT_TRACE) {
                bodies[ran] = body;
            }
            ran++;
        }
    }

    /** A payer as it came: what changes about it stands in the World. */
    private static class Payer {
        final int kind;
        final int number;
        final int v;

        Payer(int kind, int number, int v) {
            this.kind = kind;
            this.number = number;
            this.v = v;
        }

        /** Whether its hand may hold coins of this sort. */
        boolean partsWith(World world, int sort) {
            return true;
        }

        /** Of the hands that pay it hands over the one of the least rank. */
        long rank(Payment hand) {
            return ranked(hand.sum, hand.coins);
        }

        /** Whether its rank asks for what comes back. */
        boolean thinksOfWeight() {
            return false;
        }

        /** First decides; second, which is far below 1000, between those alike. */
        static long ranked(int first, int second) {
            return first * 1000L + second;
        }

        int counts(int x, Trace trace) {
            trace.begins(10);
            return x + number;
        }

        int hands(int x, Trace trace) {
            trace.begins(11);
            return counts(x, trace) - v;
        }

        int tells(int x, Trace trace) {
            trace.begins(12);
            return hands(x, trace) * 2;
        }
    }

    private static class Exact extends Payer {
        Exact(int kind, int number, int v) {
            super(kind, number, v);
        }

        long rank(Payment hand) {
            return ranked(hand.sum, hand.sum == hand.price ? -hand.coins : hand.coins);
        }

        int hands(int x, Trace trace) {
            trace.begins(20);
            return super.hands(x, trace) ^ 6;
        }
    }

    private static class Rough extends Payer {
        Rough(int kind, int number, int v) {
            super(kind, number, v);
        }

        long rank(Payment hand) {
            return ranked(hand.coins, hand.sum);
        }

        int counts(int x, Trace trace) {
            trace.begins(30);
            return super.counts(x * 3, trace);
        }
    }

    private static class Keeper extends Payer {
        Keeper(int kind, int number, int v) {
            super(kind, number, v);
        }

        boolean partsWith(World world, int sort) {
            return sort != v % SORTS;
        }

        int tells(int x, Trace trace) {
            trace.begins(40);
            return super.tells(x, trace) + hands(1, trace);
        }
    }

    private static final class Light extends Exact {
        Light(int number, int v) {
            super(LIGHT, number, v);
        }

        long rank(Payment hand) {
            return hand.weightBehind();
        }

        boolean thinksOfWeight() {
            return true;
        }

        int counts(int x, Trace trace) {
            trace.begins(50);
            return -super.counts(x, trace);
        }

        int hands(int x, Trace trace) {
            trace.begins(51);
            return super.hands(x + 1, trace);
        }
    }

    private static final class Wild extends Rough {
        Wild(int number, int v) {
            super(WILD, number, v);
        }

        long rank(Payment hand) {
            return ranked(hand.coins, -hand.sum);
        }

        int tells(int x, Trace trace) {
            trace.begins(60);
            return super.tells(x - number, trace);
        }
    }

    private static final class Told extends Keeper {
        Told(int number, int v) {
            super(TOLD, number, v);
        }

        boolean partsWith(World world, int sort) {
            return sort != world.rows[number][world.paid[number] % PARTS];
        }

        int hands(int x, Trace trace) {
            trace.begins(70);
            return super.hands(x, trace) + super.counts(2, trace);
        }

        int counts(int x, Trace trace) {
            trace.begins(71);
            return super.counts(x, trace) ^ v;
        }
    }
}
