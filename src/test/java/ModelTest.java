import java.lang.reflect.Method;
import java.util.ArrayList;
import java.util.Comparator;
import java.util.List;
import java.util.Random;
import java.util.function.Predicate;

/**
 * Runs of calls, drawn from fixed seeds, on the program and on a model that is written another
 * way: all hands in a list, sorted as the document's words say, and towns kept as their texts.
 */
public final class ModelTest {
    private static final int RUNS = 240;
    private static final int CALLS = 512;

    public static void main(String[] args) throws Exception {
        int wrong = 0;
        int calls = 0;
        for (int run = 0; run < RUNS; run++) {
            Calls made = new Calls(run);
            while (made.count < CALLS && made.fault == null) {
                made.some();
            }
            calls += made.count;
            if (made.fault != null) {
                wrong++;
                System.out.println("seed " + run + ", call " + made.count + ": " + made.fault);
            }
        }
        System.out.println(calls + " calls in " + RUNS + " runs, " + wrong + " runs not as the model");
        if (wrong != 0) {
            System.exit(1);
        }
    }

    /** One run: calls on both, until one is answered otherwise. */
    private static final class Calls {
        private static final String[] FORMS = {
            "payer kv", "of pw", "of pw", "purse psn", "purse psn", "purse psn", "till sn", "till sn", "row pts",
            "feed f", "town", "told w", "pay pr", "pay pr", "pay pr", "would prw", "would prw", "would prw",
            "least pr2", "least pr2", "exactly p", "price q", "behind p2", "who", "next p", "shortOf p",
            "more prs", "more prs", "heaviest p8", "see qc", "fits", "odds p2", "mean r2", "book Pr", "looked",
            "judge ai", "image", "undo", "act p2x", "trace i", "taken pk", "count k", "tape asi", "item aiL",
            "read ai", "shift aiaii"};
        private final Random random;
        private final RidCoppers program = new RidCoppers();
        private final Model model = new Model();
        private final boolean small;
        private int count = 0;
        private String fault = null;

        Calls(int seed) {
            random = new Random(seed);
            small = seed % 3 == 0;
            int payers = 1 + random.nextInt(4);
            for (int p = 0; p < payers; p++) {
                call("payer", random.nextInt(7), random.nextInt(10));
                for (int s = 0; s < 6; s++) {
                    call("purse", p, s, counts());
                }
            }
        }

        void some() {
            int choice = random.nextInt(60);
            if (choice == 0) {
                newTown();
            } else if (choice == 1) {
                seeWhatIs();
            } else if (choice == 2) {
                tellTheTill();
            } else {
                String[] form = FORMS[random.nextInt(FORMS.length)].split(" ");
                if (!form[0].equals("town") || random.nextInt(4) == 0) {
                    Object[] args = new Object[form.length < 2 ? 0 : form[1].length()];
                    for (int a = 0; a < args.length; a++) {
                        args[a] = argument(form[1].charAt(a));
                    }
                    call(form[0], args);
                }
            }
        }

        private void newTown() {
            String text = random.nextInt(3) == 0 ? spoilt(clauses()) : clauses();
            for (int i = 0; i < text.length(); i++) {
                call("feed", (int) text.charAt(i));
            }
            call("town");
            for (int s = 0; s < 6; s++) {
                call("told", 20 + s);
            }
        }

        private void seeWhatIs() {
            int p = random.nextInt(4);
            int price = 1 + random.nextInt(40);
            call("see", price, Math.max(0, model.would(p, price, 1)));
            call("fits");
        }

        private void tellTheTill() {
            int tape = random.nextInt(6);
            int from = random.nextInt(3);
            call("tape", tape, 0, from + 4 + random.nextInt(3));
            for (int s = 0; s < 6; s++) {
                call("item", tape, from + s, (long) model.told(10 + s));
            }
            call("judge", tape, from);
        }

        private Object argument(char form) {
            if (random.nextInt(60) == 0) {
                int[] odd = {Integer.MIN_VALUE, Integer.MAX_VALUE, -2, -1, 7, 200, 1000};
                int one = odd[random.nextInt(odd.length)];
                return form == 'L' ? (Object) (long) one : (Object) one;
            }
            switch (form) {
                case 'k': return random.nextInt(7);
                case 'v': return random.nextInt(10);
                case 'p': return random.nextInt(4);
                case 'P': return random.nextInt(5) - 1;
                case 'w': return random.nextInt(3) * 10 + random.nextInt(6);
                case 's': return random.nextInt(6);
                case 't': return random.nextInt(4);
                case 'n': return counts();
                case 'f': return random.nextInt(128);
                case 'r': return price();
                case 'q': return random.nextInt(6) == 0 ? -1 : price();
                case 'c': return random.nextInt(15);
                case '2': return random.nextInt(3);
                case '8': return random.nextInt(9) + 1;
                case 'a': return random.nextInt(6);
                case 'i': return random.nextInt(8);
                case 'x': return random.nextInt();
                case 'L': return random.nextLong() >> random.nextInt(64);
                default: throw new IllegalStateException("no form " + form);
            }
        }

        private int price() {
            return random.nextInt(3) == 0 ? 1 + random.nextInt(199) : 1 + random.nextInt(45);
        }

        private int counts() {
            int choice = random.nextInt(12);
            if (choice == 0) {
                return 99 - random.nextInt(3);
            }
            return small || choice < 7 ? random.nextInt(3) : random.nextInt(10);
        }

        private String clauses() {
            StringBuilder text = new StringBuilder();
            for (int c = 0; c < 10 && (c == 0 || random.nextInt(4) != 0); c++) {
                StringBuilder clause = new StringBuilder(c == 0 ? "" : ";");
                int word = random.nextInt(7);
                if (word == 0) {
                    clause.append("most ").append(random.nextInt(4));
                } else {
                    clause.append(word < 4 ? "heft " : "keep ").append(random.nextInt(word < 4 ? 30 : 3)).append(' ');
                    either(clause, 0);
                }
                if (text.length() + clause.length() <= 100) {
                    text.append(clause);
                }
            }
            return text.toString();
        }

        private void either(StringBuilder text, int depth) {
            int parts = 1 + Math.max(0, random.nextInt(6) - 3);
            for (int i = 0; i < parts; i++) {
                text.append(i == 0 ? "" : random.nextBoolean() ? "|" : "&");
                single(text, depth);
            }
        }

        private void single(StringBuilder text, int depth) {
            int choice = random.nextInt(5);
            if (choice == 0 && depth < 5) {
                single(text.append('!'), depth + 1);
            } else if (choice == 1 && depth < 5) {
                either(text.append('('), depth + 1);
                text.append(')');
            } else {
                int number = random.nextInt(3) == 0 ? random.nextInt(25) : random.nextInt(6);
                text.append("swtpkd".charAt(random.nextInt(6))).append("<=>".charAt(random.nextInt(3))).append(number);
            }
        }

        private String spoilt(String text) {
            int at = random.nextInt(text.length());
            String sign = "heftkpmos 01;()!|&<=>swd".charAt(random.nextInt(24)) + "";
            switch (random.nextInt(4)) {
                case 0: return text.substring(0, at);
                case 1: return text.substring(0, at) + text.substring(at + 1);
                case 2: return text.substring(0, at) + sign + text.substring(at + 1);
                default: return text.substring(0, at) + sign + text.substring(at);
            }
        }

        private void call(String name, Object... args) {
            if (fault != null || count >= CALLS) {
                return;
            }
            count++;
            long want = answer(model, Model.class, name, args);
            long got = answer(program, RidCoppers.class, name, args);
            if (got != want) {
                fault = name + java.util.Arrays.toString(args) + " answered " + got + ", the model " + want;
            }
        }

        private static long answer(Object one, Class<?> type, String name, Object[] args) {
            try {
                for (Method method : type.getDeclaredMethods()) {
                    if (method.getName().equals(name) && method.getParameterCount() == args.length) {
                        return ((Number) method.invoke(one, args)).longValue();
                    }
                }
                throw new IllegalStateException("no call " + name);
            } catch (ReflectiveOperationException e) {
                throw new IllegalStateException(name + java.util.Arrays.toString(args), e);
            }
        }
    }

    static final class Person {
        int kind;
        int v;
        int number;
        int paid;
        int[] purse = new int[6];
        int[] row = new int[4];

        Person copy() {
            Person other = new Person();
            other.kind = kind;
            other.v = v;
            other.number = number;
            other.paid = paid;
            other.purse = purse.clone();
            other.row = row.clone();
            return other;
        }
    }

    /** A hand that pays: what is given, what comes back, and how the purse is then. */
    record Hand(int[] given, int[] back, int sum, int coins, int weightBehind, int coinsBehind) { }

    static final class Place {
        List<Person> people = new ArrayList<>();
        int[] till = {9, 9, 9, 9, 9, 9};
        List<Integer> prices = new ArrayList<>();
        List<int[]> seen = new ArrayList<>();
        List<int[]> book = new ArrayList<>();
        String town = null;

        Place copy() {
            Place other = new Place();
            for (Person one : people) {
                other.people.add(one.copy());
            }
            other.till = till.clone();
            other.prices = new ArrayList<>(prices);
            other.seen = new ArrayList<>(seen);
            other.book = new ArrayList<>(book);
            other.town = town;
            return other;
        }

        List<String> clauses(String word) {
            List<String> found = new ArrayList<>();
            for (String clause : town == null ? new String[0] : town.split(";")) {
                if (clause.startsWith(word)) {
                    found.add(clause);
                }
            }
            return found;
        }

        int together(String word, int[] facts) {
            int sum = 0;
            for (String clause : clauses(word)) {
                String[] parts = clause.split(" ");
                sum += Texts.holds(parts[2], facts) ? Integer.parseInt(parts[1]) : 0;
            }
            return sum;
        }

        int heft(int sort) {
            return clauses("heft").isEmpty() ? 2 + sort
                    : together("heft", new int[] {sort, Model.WORTH[sort], 0, 0, 0, 0});
        }

        int kept(Person one, int sort) {
            return together("keep",
                    new int[] {sort, Model.WORTH[sort], till[sort], one.number, one.kind, one.paid % 7});
        }

        int most() {
            List<String> told = clauses("most");
            return told.isEmpty() ? 2 : Math.min(2, Integer.parseInt(told.get(told.size() - 1).split(" ")[1]));
        }

        int weight(int[] counts) {
            int weight = 0;
            for (int s = 0; s < 6; s++) {
                weight += counts[s] * heft(s);
            }
            return weight;
        }

        /** All hands of any sorts, as rows. */
        List<int[]> hands(Person one) {
            List<int[]> rows = new ArrayList<>();
            rows.add(new int[0]);
            for (int s = 0; s < 6; s++) {
                List<int[]> longer = new ArrayList<>();
                int spare = one.purse[s] - kept(one, s);
                for (int[] row : rows) {
                    for (int n = 0; n <= most() && (n == 0 || n <= spare); n++) {
                        int[] next = java.util.Arrays.copyOf(row, s + 1);
                        next[s] = n;
                        longer.add(next);
                    }
                }
                rows = longer;
            }
            return rows;
        }

        /** Of these hands those that pay. */
        List<Hand> paying(Person one, int price, List<int[]> hands) {
            int[] heft = new int[6];
            for (int s = 0; s < 6; s++) {
                heft[s] = heft(s);
            }
            List<Hand> found = new ArrayList<>();
            for (int[] given : hands) {
                int sum = 0;
                int coins = 0;
                for (int s = 0; s < 6; s++) {
                    sum += given[s] * Model.WORTH[s];
                    coins += given[s];
                }
                int[] back = new int[6];
                int rest = sum - price;
                for (int s = 5; s >= 0 && rest > 0; s--) {
                    while (rest >= Model.WORTH[s] && back[s] < till[s] + given[s]) {
                        back[s]++;
                        rest -= Model.WORTH[s];
                    }
                }
                boolean fine = rest == 0;
                int weight = 0;
                int left = 0;
                for (int s = 0; s < 6; s++) {
                    int behind = one.purse[s] - given[s] + back[s];
                    fine &= behind <= 99 && till[s] + given[s] - back[s] <= 99;
                    weight += behind * heft[s];
                    left += behind;
                }
                if (fine) {
                    found.add(new Hand(given, back, sum, coins, weight, left));
                }
            }
            return found;
        }

        Hand chosen(Person one, int price) {
            List<int[]> hands = hands(one);
            if (one.kind == 3) {
                hands.removeIf(h -> h[one.v % 6] > 0);
            }
            if (one.kind == 6) {
                hands.removeIf(h -> h[one.row[one.paid % 4]] > 0);
            }
            List<Hand> paying = paying(one, price, hands);
            if (paying.isEmpty()) {
                return null;
            }
            int leastSum = paying.stream().mapToInt(Hand::sum).min().getAsInt();
            int fewest = paying.stream().mapToInt(Hand::coins).min().getAsInt();
            int lightest = paying.stream().mapToInt(Hand::weightBehind).min().getAsInt();
            Predicate<Hand> first = h -> h.sum == leastSum;
            Comparator<Hand> then = Comparator.comparingInt(Hand::coins);
            switch (one.kind) {
                case 1: then = leastSum == price ? then.reversed() : then; break;
                case 2: first = h -> h.coins == fewest; then = Comparator.comparingInt(Hand::sum); break;
                case 4: first = h -> h.weightBehind == lightest; then = (a, b) -> 0; break;
                case 5: first = h -> h.coins == fewest; then = Comparator.comparingInt(Hand::sum).reversed(); break;
                default: break;
            }
            return paying.stream().filter(first).sorted(then).findFirst().get();
        }

        /** The hand with which it paid in this place, or null. */
        Hand paid(int payer, int price) {
            Person one = people.get(payer);
            Hand hand = chosen(one, price);
            if (hand != null) {
                for (int s = 0; s < 6; s++) {
                    till[s] += hand.given[s] - hand.back[s];
                    one.purse[s] += hand.back[s] - hand.given[s];
                }
                one.paid++;
            }
            return hand;
        }
    }

    /** Towns as texts, split where their signs stand outside of brackets. */
    static final class Texts {
        static boolean holds(String e, int[] facts) {
            List<String> parts = split(e, '|');
            if (parts.size() > 1) {
                return parts.stream().anyMatch(p -> holds(p, facts));
            }
            parts = split(e, '&');
            if (parts.size() > 1) {
                return parts.stream().allMatch(p -> holds(p, facts));
            }
            if (e.startsWith("!")) {
                return !holds(e.substring(1), facts);
            }
            if (e.startsWith("(")) {
                return holds(e.substring(1, e.length() - 1), facts);
            }
            int is = Integer.compare(facts["swtpkd".indexOf(e.charAt(0))], Integer.parseInt(e.substring(2)));
            return is == "<=>".indexOf(e.charAt(1)) - 1;
        }

        static List<String> split(String text, char sign) {
            List<String> parts = new ArrayList<>();
            int depth = 0;
            int from = 0;
            for (int i = 0; i < text.length(); i++) {
                depth += text.charAt(i) == '(' ? 1 : text.charAt(i) == ')' ? -1 : 0;
                if (text.charAt(i) == sign && depth == 0) {
                    parts.add(text.substring(from, i));
                    from = i + 1;
                }
            }
            parts.add(text.substring(from));
            return parts;
        }

        static boolean isTown(String text) {
            String[] clauses = text.split(";", -1);
            if (clauses.length > 10) {
                return false;
            }
            for (String clause : clauses) {
                boolean fine = clause.matches("most [0-9]{1,2}")
                        || clause.matches("(heft|keep) [0-9]{1,2} [^ ]+") && isEither(clause.split(" ")[2], 0);
                if (!fine) {
                    return false;
                }
            }
            return true;
        }

        static boolean isEither(String e, int depth) {
            int open = 0;
            for (char c : e.toCharArray()) {
                open += c == '(' ? 1 : c == ')' ? -1 : 0;
                if (open < 0) {
                    return false;
                }
            }
            for (String t : split(e, '|')) {
                for (String f : split(t, '&')) {
                    if (!isSingle(f, depth)) {
                        return false;
                    }
                }
            }
            return open == 0;
        }

        static boolean isSingle(String f, int depth) {
            if (f.startsWith("!")) {
                return depth < 4 && isSingle(f.substring(1), depth + 1);
            }
            if (f.startsWith("(") && f.endsWith(")")) {
                return depth < 4 && isEither(f.substring(1, f.length() - 1), depth + 1);
            }
            return f.matches("[swtpkd][<=>][0-9]{1,2}");
        }

        /** The place of the first sign with which no town begins so: endings are tried. */
        static int fault(String text) {
            for (int i = 0; i < text.length(); i++) {
                if (!begins(text.substring(0, i + 1))) {
                    return i;
                }
            }
            return isTown(text) ? -1 : text.length();
        }

        static boolean begins(String text) {
            for (String whole : new String[] {"heft 1 s=1", "keep 1 s=1", "most 1"}) {
                for (int from = 0; from <= whole.length(); from++) {
                    for (String close : new String[] {"", ")", "))", ")))", "))))"}) {
                        if (isTown(text + whole.substring(from) + close)) {
                            return true;
                        }
                    }
                }
            }
            return false;
        }
    }

    /** The document's calls, in its words. */
    static final class Model {
        static final int[] WORTH = {1, 2, 5, 10, 20, 50};
        static final long NO = Long.MIN_VALUE;
        private Place here = new Place();
        private Place image = null;
        private int towns = 0;
        private String text = "";
        private List<Integer> trace = new ArrayList<>();
        private final long[][] tapes = new long[6][];
        private final int[] sorts = new int[6];

        private Person person(int payer) {
            return payer >= 0 && payer < here.people.size() ? here.people.get(payer) : null;
        }

        private static boolean in(int n, int from, int to) {
            return n >= from && n <= to;
        }

        int payer(int kind, int v) {
            if (!in(kind, 0, 6)) {
                return -1;
            }
            if (!in(v, 0, 9)) {
                return -2;
            }
            if (here.people.size() == 4) {
                return -4;
            }
            Person one = new Person();
            one.kind = kind;
            one.v = v;
            one.number = here.people.size();
            here.people.add(one);
            return one.number;
        }

        int of(int payer, int what) {
            Person one = person(payer);
            if (one == null) {
                return -1;
            }
            if (in(what, 10, 15)) {
                return one.purse[what - 10];
            }
            if (in(what, 20, 25)) {
                return here.kept(one, what - 20);
            }
            int coins = java.util.Arrays.stream(one.purse).sum();
            return in(what, 0, 4) ? new int[] {one.kind, one.v, one.paid, here.weight(one.purse), coins}[what] : -1;
        }

        int purse(int payer, int sort, int n) {
            Person one = person(payer);
            return one == null ? -1 : become(one.purse, sort, n);
        }

        int till(int sort, int n) {
            return become(here.till, sort, n);
        }

        private static int become(int[] counts, int sort, int n) {
            if (!in(sort, 0, 5)) {
                return -1;
            }
            if (!in(n, 0, 99)) {
                return -2;
            }
            int was = counts[sort];
            counts[sort] = n;
            return was;
        }

        int row(int payer, int part, int n) {
            Person one = person(payer);
            if (one == null || !in(part, 0, 3)) {
                return -1;
            }
            if (!in(n, 0, 5)) {
                return -2;
            }
            if (one.kind != 6) {
                return -3;
            }
            int was = one.row[part];
            one.row[part] = n;
            return was;
        }

        int feed(int sign) {
            if (!in(sign, 0, 127)) {
                return -2;
            }
            if (text.length() == 100) {
                return -4;
            }
            text += (char) sign;
            return text.length();
        }

        int town() {
            if (towns == 6) {
                return -4;
            }
            String told = text;
            text = "";
            int fault = Texts.fault(told);
            if (fault >= 0) {
                return -10 - fault;
            }
            here.town = told;
            return towns++;
        }

        int told(int what) {
            return what == 0 ? here.most() : in(what, 10, 15) ? here.till[what - 10]
                    : in(what, 20, 25) ? here.heft(what - 20) : -1;
        }

        int pay(int payer, int price) {
            if (person(payer) == null) {
                return -1;
            }
            if (!in(price, 1, 199)) {
                return -2;
            }
            Hand hand = here.paid(payer, price);
            return hand == null ? -3 : hand.coins;
        }

        int would(int payer, int price, int what) {
            if (person(payer) == null || !(in(what, 0, 2) || in(what, 10, 15) || in(what, 20, 25))) {
                return -1;
            }
            if (!in(price, 1, 199)) {
                return -2;
            }
            Hand hand = here.chosen(person(payer), price);
            if (hand == null) {
                return -5;
            }
            return what >= 20 ? hand.back[what - 20] : what >= 10 ? hand.given[what - 10]
                    : what == 0 ? hand.sum : what == 1 ? hand.coinsBehind : hand.weightBehind;
        }

        int least(int payer, int price, int what) {
            Person one = person(payer);
            if (one == null || !in(what, 0, 1)) {
                return -1;
            }
            if (!in(price, 1, 199)) {
                return -2;
            }
            return here.paying(one, price, here.hands(one)).stream()
                    .mapToInt(h -> what == 0 ? h.weightBehind : h.coinsBehind).min().orElse(-5);
        }

        int exactly(int payer) {
            Person one = person(payer);
            if (one == null) {
                return -1;
            }
            List<int[]> hands = here.hands(one);
            int prices = 0;
            for (int price = 1; price <= 60; price++) {
                int due = price;
                prices += here.paying(one, price, hands).stream().anyMatch(h -> h.sum == due) ? 1 : 0;
            }
            return prices;
        }

        int price(int n) {
            if (n == -1) {
                here.prices.clear();
                return 0;
            }
            if (!in(n, 1, 199)) {
                return -2;
            }
            if (here.prices.size() == 4) {
                return -4;
            }
            here.prices.add(n);
            return here.prices.size();
        }

        int behind(int payer, int what) {
            if (person(payer) == null || !in(what, 0, 2)) {
                return -1;
            }
            Place then = here.copy();
            int paid = 0;
            for (int price : here.prices) {
                paid += then.paid(payer, price) == null ? 0 : 1;
            }
            int[] purse = then.people.get(payer).purse;
            return what == 2 ? paid : what == 0 ? then.weight(purse) : java.util.Arrays.stream(purse).sum();
        }

        int who() {
            int who = -5;
            for (int p = here.people.size() - 1; p >= 0; p--) {
                boolean all = behind(p, 2) == here.prices.size();
                who = all && (who < 0 || behind(p, 1) <= behind(who, 1)) ? p : who;
            }
            return who;
        }

        int next(int payer) {
            if (person(payer) == null) {
                return -1;
            }
            int next = -5;
            for (int price = 30; price >= 1; price--) {
                boolean can = would(payer, price, 1) != -5;
                next = can && (next < 0 || would(payer, price, 1) <= would(payer, next, 1)) ? price : next;
            }
            return next;
        }

        int shortOf(int payer) {
            if (person(payer) == null) {
                return -1;
            }
            int worth = 0;
            for (int s = 0; s < 6; s++) {
                worth += person(payer).purse[s] * WORTH[s];
            }
            for (int price = 1; price <= 60; price++) {
                if (worth >= price && here.chosen(person(payer), price) == null) {
                    return price;
                }
            }
            return -5;
        }

        int more(int payer, int price, int sort) {
            if (person(payer) == null || !in(sort, 0, 5)) {
                return -100001;
            }
            if (!in(price, 1, 199)) {
                return -100002;
            }
            Place then = here.copy();
            then.till[sort] += then.till[sort] < 99 ? 1 : 0;
            Hand now = here.chosen(person(payer), price);
            Hand richer = then.chosen(then.people.get(payer), price);
            return now == null || richer == null ? 0 : richer.weightBehind - now.weightBehind;
        }

        int heaviest(int payer, int n) {
            if (person(payer) == null) {
                return -1;
            }
            if (!in(n, 1, 8)) {
                return -2;
            }
            Place then = here.copy();
            int most = then.weight(then.people.get(payer).purse);
            for (int price = 7; price <= 7 * n; price += 7) {
                then.paid(payer, price);
                most = Math.max(most, then.weight(then.people.get(payer).purse));
            }
            return most;
        }

        int see(int price, int coins) {
            if (price == -1) {
                here.seen.clear();
                return 0;
            }
            if (!in(price, 1, 199) || !in(coins, 0, 99)) {
                return -2;
            }
            if (here.seen.size() == 4) {
                return -4;
            }
            here.seen.add(new int[] {price, coins});
            return here.seen.size();
        }

        int fits() {
            int bits = 0;
            for (Person one : here.people) {
                int p = one.number;
                bits += here.seen.stream().allMatch(s -> would(p, s[0], 1) == s[1]) ? 1 << p : 0;
            }
            return bits;
        }

        long odds(int payer, int part) {
            if (person(payer) == null || !in(part, 0, 1)) {
                return NO;
            }
            int can = 0;
            for (int price = 1; price <= 20; price++) {
                can += here.chosen(person(payer), price) == null ? 0 : 1;
            }
            return fraction(can, 20, part);
        }

        long mean(int price, int part) {
            if (!in(price, 1, 199) || !in(part, 0, 1)) {
                return NO;
            }
            int coins = 0;
            int people = 0;
            for (Person one : here.people) {
                Hand hand = here.chosen(one, price);
                coins += hand == null ? 0 : hand.coins;
                people += hand == null ? 0 : 1;
            }
            return people == 0 ? NO : fraction(coins, people, part);
        }

        private static long fraction(int above, int below, int part) {
            for (int d = below; d > 1; d--) {
                if (above % d == 0 && below % d == 0) {
                    return fraction(above / d, below / d, part);
                }
            }
            return part == 0 ? above : below;
        }

        int book(int payer, int price) {
            if (payer == -1) {
                here.book.clear();
                return 0;
            }
            if (person(payer) == null) {
                return -1;
            }
            if (!in(price, 1, 199)) {
                return -2;
            }
            if (here.book.size() == 8) {
                return -4;
            }
            here.book.add(new int[] {payer, price});
            return here.book.size();
        }

        int looked() {
            Place then = here.copy();
            for (int i = 0; i < here.book.size(); i++) {
                if (then.paid(here.book.get(i)[0], here.book.get(i)[1]) == null) {
                    return i;
                }
            }
            return -5;
        }

        int judge(int tape, int i) {
            if (!in(tape, 0, 5)) {
                return -1;
            }
            if (tapes[tape] != null && sorts[tape] != 0) {
                return -12;
            }
            for (int s = 0; s < 6; s++) {
                if (tapes[tape] == null || i < 0 || (long) i + s >= tapes[tape].length) {
                    return 100 + s;
                }
                if (tapes[tape][i + s] != here.till[s]) {
                    return s;
                }
            }
            return -5;
        }

        int image() {
            image = here.copy();
            return here.people.size();
        }

        int undo() {
            if (image == null) {
                return -3;
            }
            here = image.copy();
            return here.people.size();
        }

        int act(int payer, int act, int x) {
            trace = new ArrayList<>();
            Person one = person(payer);
            return one == null || !in(act, 0, 2) ? 0 : body(one, act, one.kind, x);
        }

        /** The body of an act from a kind on upwards. */
        private int body(Person one, int act, int kind, int x) {
            int above = new int[] {0, 0, 0, 0, 1, 2, 3}[kind];
            int number = new int[][] {{10, 11, 12}, {0, 20, 0}, {30, 0, 0}, {0, 0, 40}, {50, 51, 0}, {0, 0, 60},
                {71, 70, 0}}[kind][act];
            if (number == 0) {
                return body(one, act, above, x);
            }
            trace.add(number);
            switch (number) {
                case 10: return x + one.number;
                case 11: return body(one, 0, one.kind, x) - one.v;
                case 12: return body(one, 1, one.kind, x) * 2;
                case 20: return body(one, 1, above, x) ^ 6;
                case 30: return body(one, 0, above, x * 3);
                case 40: return body(one, 2, above, x) + body(one, 1, one.kind, 1);
                case 50: return -body(one, 0, above, x);
                case 51: return body(one, 1, above, x + 1);
                case 60: return body(one, 2, above, x - one.number);
                case 70: return body(one, 1, above, x) + body(one, 0, above, 2);
                default: return body(one, 0, above, x) ^ one.v;
            }
        }

        int trace(int i) {
            return in(i, 0, Math.min(20, trace.size()) - 1) ? trace.get(i) : -1;
        }

        int taken(int payer, int k) {
            if (!in(k, 0, 6)) {
                return -2;
            }
            Person one = person(payer);
            if (one == null) {
                return -11;
            }
            return k == 0 || one.kind == k || one.kind == k + 3 ? one.kind : -12;
        }

        int count(int what) {
            int[] all = {here.people.size(), towns, here.prices.size(), here.seen.size(), here.book.size(),
                text.length(), trace.size()};
            return in(what, 0, 6) ? all[what] : -2;
        }

        int tape(int tape, int sort, int n) {
            if (!in(tape, 0, 5)) {
                return -1;
            }
            if (sort == -1) {
                tapes[tape] = null;
                return 1;
            }
            if (!in(sort, 0, 4) || n > 60) {
                return -2;
            }
            if (n < 0) {
                return -14;
            }
            tapes[tape] = new long[n];
            sorts[tape] = sort;
            return 1;
        }

        int item(int tape, int i, long v) {
            if (!in(tape, 0, 5)) {
                return -1;
            }
            if (tapes[tape] == null) {
                return -11;
            }
            if (!in(i, 0, tapes[tape].length - 1)) {
                return -13;
            }
            tapes[tape][i] = new long[] {(byte) v, (short) v, (int) v, v, v == 0 ? 0 : 1}[sorts[tape]];
            return 1;
        }

        long read(int tape, int i) {
            boolean there = in(tape, 0, 5) && tapes[tape] != null && in(i, 0, tapes[tape].length - 1);
            return there ? tapes[tape][i] : NO;
        }

        int shift(int tape, int i, int other, int j, int n) {
            if (!in(tape, 0, 5) || !in(other, 0, 5)) {
                return -1;
            }
            if (tapes[tape] == null || tapes[other] == null) {
                return -11;
            }
            if (sorts[tape] != sorts[other]) {
                return -12;
            }
            if (n < 0 || i < 0 || j < 0 || (long) i + n > tapes[tape].length || (long) j + n > tapes[other].length) {
                return -13;
            }
            long[] before = tapes[tape].clone();
            for (int k = 0; k < n; k++) {
                tapes[other][j + k] = before[i + k];
            }
            return n;
        }
    }
}
