import java.util.Random;

/**
 * Runs of calls, chosen by a fixed seed, against a slow reading of the document that shares no way
 * of working with the class: tables are told row by row, least costs are lowered until none falls,
 * BY is searched in its order, AROUND is cut from all relations that the signs let, and a text is
 * judged by what may follow each prefix of it.
 */
public final class OracleTest {
    private static final int BAD = -1, STATE = -2, FULL = -3, NONE = -9;
    private static final int MANY = 1 << 28;

    /** No turn of a run makes more calls: the longest types a text of some 130 bytes, one by one. */
    private static final int TURN = 180;

    private int signs = 0;
    private final int[] places = new int[6];
    private final int[] tables = new int[6];
    private final int[] costs = new int[6];
    private String text = "";
    private final int[][] formulas = new int[4][];
    private final int[][] least = new int[4][];

    private OracleTest() {
        forget();
    }

    public static void main(String[] args) {
        Random random = new Random(20261116);
        for (int run = 0; run < 500; run++) {
            play(random, run);
        }
        everyTableAlone();
        Due.end("OracleTest");
    }

    private void forget() {
        for (int i = 0; i < 4; i++) {
            formulas[i] = new int[] {170, 0, 0, 1};
            least[i] = null;
        }
    }

    // ---- tables, row by row

    private static int size(int n) {
        return 1 << (1 << n);
    }

    private static int placeTable(int n, int place) {
        int table = 0;
        for (int row = 0; row < 1 << n; row++) {
            table |= (row >> place & 1) << row;
        }
        return table;
    }

    /** What a table of k places tells of parts, each of so many bits. */
    private static int told(int k, int table, int bits, int... parts) {
        int out = 0;
        for (int bit = 0; bit < bits; bit++) {
            int row = 0;
            for (int i = 0; i < k; i++) {
                row |= (parts[i] >> bit & 1) << i;
            }
            out |= (table >> row & 1) << bit;
        }
        return out;
    }

    private static int keeps(int n, int t) {
        int last = (1 << n) - 1;
        int bits = ((t & 1) == 0 ? 1 : 0) | ((t >> last & 1) == 1 ? 2 : 0);
        boolean turned = true;
        boolean rising = true;
        for (int r = 0; r <= last; r++) {
            turned &= (t >> r & 1) != (t >> (last ^ r) & 1);
            for (int q = 0; q <= last; q++) {
                rising &= (r & q) != r || (t >> r & 1) <= (t >> q & 1);
            }
        }
        boolean sum = false;
        for (int some = 0; some <= last; some++) {
            for (int start = 0; start < 2; start++) {
                boolean same = true;
                for (int r = 0; r <= last; r++) {
                    same &= (t >> r & 1) == ((start + Integer.bitCount(r & some)) & 1);
                }
                sum |= same;
            }
        }
        return bits | (turned ? 4 : 0) | (rising ? 8 : 0) | (sum ? 16 : 0);
    }

    // ---- what can be said

    private int[] leastCosts(int n) {
        if (least[n] == null) {
            int[] cost = new int[size(n)];
            java.util.Arrays.fill(cost, MANY);
            for (int i = 0; i < n; i++) {
                cost[placeTable(n, i)] = 0;
            }
            while (lower(n, cost)) {
                continue;
            }
            least[n] = cost;
        }
        return least[n];
    }

    private boolean lower(int n, int[] cost) {
        boolean fell = false;
        for (int s = 0; s < signs; s++) {
            int as = places[s] > 0 ? cost.length : 1;
            int bs = places[s] > 1 ? cost.length : 1;
            int cs = places[s] > 2 ? cost.length : 1;
            for (int a = 0; a < as; a++) {
                for (int b = 0; b < bs; b++) {
                    for (int c = 0; c < cs; c++) {
                        int sum = sum(cost, s, a, b, c);
                        int table = sum < MANY ? told(places[s], tables[s], 1 << n, a, b, c) : 0;
                        if (sum < MANY && sum < cost[table]) {
                            cost[table] = sum;
                            fell = true;
                        }
                    }
                }
            }
        }
        return fell;
    }

    private int sum(int[] cost, int s, int a, int b, int c) {
        long sum = costs[s];
        sum += places[s] > 0 ? cost[a] : 0;
        sum += places[s] > 1 ? cost[b] : 0;
        sum += places[s] > 2 ? cost[c] : 0;
        return (int) Math.min(MANY, sum);
    }

    private int by(int n, int table, int part) {
        int[] cost = leastCosts(n);
        if (cost[table] == MANY || cost[table] == 0) {
            return NONE;
        }
        for (int s = 0; s < signs; s++) {
            int as = places[s] > 0 ? cost.length : 1;
            int bs = places[s] > 1 ? cost.length : 1;
            int cs = places[s] > 2 ? cost.length : 1;
            for (int a = 0; a < as; a++) {
                for (int b = 0; b < bs; b++) {
                    for (int c = 0; c < cs; c++) {
                        if (sum(cost, s, a, b, c) == cost[table]
                                && told(places[s], tables[s], 1 << n, a, b, c) == table) {
                            return part == -1 ? s : part >= places[s] ? NONE : new int[] {a, b, c}[part];
                        }
                    }
                }
            }
        }
        throw new IllegalStateException("no sign begins table " + table);
    }

    private int farthest(int n, int what) {
        int[] cost = leastCosts(n);
        int greatest = 0;
        for (int c : cost) {
            greatest = c < MANY ? Math.max(greatest, c) : greatest;
        }
        if (what == 0) {
            return greatest;
        }
        for (int table = 0; table < cost.length; table++) {
            if (cost[table] == (what == 1 ? greatest : MANY)) {
                return table;
            }
        }
        return NONE;
    }

    private int costing(int n, int price) {
        int found = 0;
        for (int c : leastCosts(n)) {
            found += c == price && c < MANY ? 1 : 0;
        }
        return found;
    }

    private int reached(int n) {
        int found = 0;
        for (int c : leastCosts(n)) {
            found += c < MANY ? 1 : 0;
        }
        return found;
    }

    private boolean barred(int n) {
        for (int s = 0; s < signs; s++) {
            if (n == 3 && places[s] == 3) {
                return true;
            }
        }
        return false;
    }

    // ---- families

    private int lacks(int set) {
        int bits = 31;
        for (int s = 0; s < signs; s++) {
            bits &= (set >> s & 1) == 1 ? keeps(places[s], tables[s]) : 31;
        }
        return bits;
    }

    private int sets(int i) {
        int found = 0;
        for (int set = 0; set < 1 << signs; set++) {
            boolean least = lacks(set) == 0;
            for (int sub = 0; sub < set; sub++) {
                least &= (sub & set) != sub || lacks(sub) != 0;
            }
            if (least && found++ == i) {
                return set;
            }
        }
        return i == -1 ? found : NONE;
    }

    // ---- relations

    private static boolean lets(int k, int table, int r, int rows) {
        int n = 1 << r;
        int all = 1;
        for (int i = 0; i < k; i++) {
            all *= n;
        }
        for (int pick = 0; pick < all; pick++) {
            int a = pick % n;
            int b = pick / n % n;
            int c = pick / n / n;
            boolean in = (k < 1 || (rows >> a & 1) == 1) && (k < 2 || (rows >> b & 1) == 1)
                    && (k < 3 || (rows >> c & 1) == 1);
            if (in && (rows >> told(k, table, r, a, b, c) & 1) == 0) {
                return false;
            }
        }
        return true;
    }

    private int letting(int r, int rows) {
        int bits = 0;
        for (int s = 0; s < signs; s++) {
            bits |= lets(places[s], tables[s], r, rows) ? 1 << s : 0;
        }
        return bits;
    }

    private int around(int r, int rows) {
        int common = size(r) - 1;
        for (int other = 0; other < size(r); other++) {
            if ((rows & ~other) == 0 && letting(r, other) == (1 << signs) - 1) {
                common &= other;
            }
        }
        return common;
    }

    private int kept(int r) {
        int found = 0;
        for (int rows = 0; rows < size(r); rows++) {
            found += letting(r, rows) == (1 << signs) - 1 ? 1 : 0;
        }
        return found;
    }

    private static int sorts(int r, int rows) {
        int n = 1 << r;
        boolean and = true;
        boolean or = true;
        boolean odd = true;
        boolean most = true;
        for (int a = 0; a < n; a++) {
            for (int b = 0; b < n; b++) {
                boolean two = (rows >> a & 1) == 1 && (rows >> b & 1) == 1;
                and &= !two || (rows >> (a & b) & 1) == 1;
                or &= !two || (rows >> (a | b) & 1) == 1;
                for (int c = 0; c < n; c++) {
                    boolean three = two && (rows >> c & 1) == 1;
                    odd &= !three || (rows >> (a ^ b ^ c) & 1) == 1;
                    most &= !three || (rows >> (a & b | a & c | b & c) & 1) == 1;
                }
            }
        }
        return (rows & 1) | ((rows >> n - 1 & 1) << 1) | (and ? 4 : 0) | (or ? 8 : 0) | (odd ? 16 : 0)
                | (most ? 32 : 0);
    }

    // ---- formulas

    /** The fault of the text, or -1: wanted holds what must yet come, its next sign last. */
    private int fault() {
        StringBuilder wanted = new StringBuilder("F");
        int letters = 0;
        int open = 0;
        for (int at = 0; at < text.length(); at++) {
            if (wanted.length() == 0) {
                return at;
            }
            char next = wanted.charAt(wanted.length() - 1);
            char here = text.charAt(at);
            wanted.setLength(wanted.length() - 1);
            if (next == 'F') {
                int s = "pqrstu".substring(0, signs).indexOf(here);
                if (s < 0 && "xyz".indexOf(here) < 0 || ++letters > 30) {
                    return at;
                }
                wanted.append(s < 0 ? "" : new String[] {"", ")F(", ")F,F(", ")F,F,F("}[places[s]]);
            } else if (here != next || here == '(' && ++open > 8) {
                return at;
            } else if (here == ')') {
                open--;
            }
        }
        return wanted.length() == 0 ? -1 : text.length();
    }

    /** Table, cost, depth, letters of the whole formula that begins at a place; and where it ends. */
    private int[] whole(int at) {
        char here = text.charAt(at);
        if (here >= 'x') {
            return new int[] {placeTable(3, here - 'x'), 0, 0, 1, at + 1};
        }
        int s = here - 'p';
        int[] parts = new int[3];
        int[] sum = {0, costs[s], 0, 1, at + 1};
        for (int i = 0; i < places[s]; i++) {
            int[] part = whole(sum[4] + 1);
            parts[i] = part[0];
            sum[1] += part[1];
            sum[2] = Math.max(sum[2], part[2]);
            sum[3] += part[3];
            sum[4] = part[4];
        }
        sum[0] = told(places[s], tables[s], 8, parts);
        sum[2]++;
        sum[4] += places[s] > 0 ? 1 : 0;
        return sum;
    }

    private int read(int i) {
        if (i < 0 || i > 3) {
            return BAD;
        }
        int fault = fault();
        if (fault >= 0) {
            return -10 - fault;
        }
        formulas[i] = whole(0);
        text = "";
        return formulas[i][3];
    }

    private static int otherHalf(int table) {
        int half = 0;
        for (int row = 0; row < 8; row++) {
            half |= (table >> (7 ^ row) & 1) == 0 ? 1 << row : 0;
        }
        return half;
    }

    private int formula(int i, int what) {
        if (i < 0 || i > 3 || what < 0 || what > 7) {
            return BAD;
        }
        int table = formulas[i][0];
        if (what < 4) {
            return formulas[i][what];
        }
        int matters = 0;
        int ones = 0;
        for (int a = 0; a < 8; a++) {
            ones += table >> a & 1;
            for (int b = 0; b < 8; b++) {
                if (Integer.bitCount(a ^ b) == 1 && (table >> a & 1) != (table >> b & 1)) {
                    matters |= a ^ b;
                }
            }
        }
        return what == 4 ? matters : what == 5 ? otherHalf(table) : what == 6 ? ones : keeps(3, table);
    }

    private int both(int i, int j, int what) {
        if (i < 0 || i > 3 || j < 0 || j > 3 || what < 0 || what > 2) {
            return BAD;
        }
        int a = formulas[i][0];
        int b = formulas[j][0];
        return what == 0 ? (a == b ? 1 : 0) : what == 1 ? ((a | b) == b ? 1 : 0) : otherHalf(b) == a ? 1 : 0;
    }

    // ---- runs

    /** Mostly a number from low to high, now and then one beyond. */
    private static int number(Random random, int low, int high) {
        int kind = random.nextInt(40);
        if (kind == 0) {
            return low - 1;
        }
        if (kind == 1) {
            return high + 1;
        }
        if (kind == 2) {
            return random.nextInt();
        }
        return low + random.nextInt(high - low + 1);
    }

    private static boolean fits(int low, int n, int table) {
        return n >= low && n <= 3 && table >= 0 && table < size(n);
    }

    private static void play(Random random, int run) {
        FewSigns few = new FewSigns();
        OracleTest slow = new OracleTest();
        int told = random.nextInt(7);
        int most = random.nextInt(4);
        int start = Due.calls();
        for (int i = 0; i < told; i++) {
            slow.tellSign(few, random, most);
        }
        for (int turn = 0; turn < 60 && Due.calls() - start <= Due.MOST_CALLS - TURN; turn++) {
            int kind = random.nextInt(16);
            if (kind == 0) {
                slow.tellSign(few, random, most);
            } else if (kind == 1) {
                slow.dropSign(few);
            } else if (kind < 5) {
                slow.asksSigns(few, random);
            } else if (kind < 8) {
                slow.asksSaying(few, random);
            } else if (kind < 11) {
                slow.asksRelations(few, random);
            } else {
                slow.asksFormulas(few, random, run);
            }
        }
    }

    private void tellSign(FewSigns few, Random random, int most) {
        int n = number(random, 0, most);
        int table = number(random, 0, n >= 0 && n <= 3 ? size(n) - 1 : 3);
        int cost = number(random, 1, random.nextBoolean() ? 2 : 9);
        int due;
        if (!fits(0, n, table) || cost < 1 || cost > 9) {
            due = BAD;
        } else if (signs == 6) {
            due = FULL;
        } else {
            places[signs] = n;
            tables[signs] = table;
            costs[signs] = cost;
            due = signs++;
            forget();
        }
        Due.is("sign(" + n + ", " + table + ", " + cost + ")", few.sign(n, table, cost), due);
    }

    private void dropSign(FewSigns few) {
        int due = signs == 0 ? BAD : --signs;
        if (due != BAD) {
            forget();
        }
        Due.is("drop()", few.drop(), due);
    }

    private void asksSigns(FewSigns few, Random random) {
        int i = number(random, 0, Math.max(0, signs - 1));
        int what = number(random, 0, 3);
        boolean is = i >= 0 && i < signs && what >= 0 && what <= 3;
        Due.is("about(" + i + ", " + what + ")", few.about(i, what), !is ? BAD
                : new int[] {places[i], tables[i], costs[i], keeps(places[i], tables[i])}[what]);
        int n = number(random, 0, 3);
        int table = number(random, 0, n >= 0 && n <= 3 ? size(n) - 1 : 3);
        Due.is("keeps(" + n + ", " + table + ")", few.keeps(n, table), fits(0, n, table) ? keeps(n, table) : BAD);
        int set = number(random, 0, (1 << signs) - 1);
        boolean isSet = set >= 0 && set < 1 << signs;
        Due.is("says(" + set + ")", few.says(set), isSet ? (lacks(set) == 0 ? 1 : 0) : BAD);
        Due.is("lacks(" + set + ")", few.lacks(set), isSet ? lacks(set) : BAD);
        int which = number(random, -1, 6);
        Due.is("sets(" + which + ")", few.sets(which), which < -1 ? BAD : sets(which));
        Due.is("count(0)", few.count(0), signs);
    }

    private void asksSaying(FewSigns few, Random random) {
        int n = number(random, 1, 3);
        int table = number(random, 0, n >= 1 && n <= 3 ? size(n) - 1 : 3);
        int part = number(random, -1, 2);
        int what = number(random, 0, 2);
        int cost = number(random, 0, 20);
        boolean isN = n >= 1 && n <= 3;
        boolean isTable = fits(1, n, table);
        boolean isPart = part >= -1 && part <= 2;
        boolean isWhat = what >= 0 && what <= 2;
        Due.is("reached(" + n + ")", few.reached(n), !isN ? BAD : barred(n) ? STATE : reached(n));
        Due.is("least(" + n + ", " + table + ")", few.least(n, table), !isTable ? BAD : barred(n) ? STATE
                : leastCosts(n)[table] == MANY ? NONE : leastCosts(n)[table]);
        Due.is("by(" + n + ", " + table + ", " + part + ")", few.by(n, table, part),
                !isTable || !isPart ? BAD : barred(n) ? STATE : by(n, table, part));
        Due.is("farthest(" + n + ", " + what + ")", few.farthest(n, what),
                !isN || !isWhat ? BAD : barred(n) ? STATE : farthest(n, what));
        Due.is("costing(" + n + ", " + cost + ")", few.costing(n, cost),
                !isN || cost < 0 ? BAD : barred(n) ? STATE : costing(n, cost));
    }

    private void asksRelations(FewSigns few, Random random) {
        int r = number(random, 1, 3);
        int rows = number(random, 0, r >= 1 && r <= 3 ? size(r) - 1 : 3);
        int i = number(random, 0, Math.max(0, signs - 1));
        boolean is = fits(1, r, rows);
        String of = r + ", " + rows + ")";
        Due.is("lets(" + i + ", " + of, few.lets(i, r, rows),
                !is || i < 0 || i >= signs ? BAD : lets(places[i], tables[i], r, rows) ? 1 : 0);
        Due.is("letting(" + of, few.letting(r, rows), is ? letting(r, rows) : BAD);
        Due.is("around(" + of, few.around(r, rows), is ? around(r, rows) : BAD);
        Due.is("sorts(" + of, few.sorts(r, rows), is ? sorts(r, rows) : BAD);
        Due.is("kept(" + r + ")", few.kept(r), r >= 1 && r <= 3 ? kept(r) : BAD);
    }

    private void asksFormulas(FewSigns few, Random random, int run) {
        typeSome(few, random);
        String before = text;
        int into = number(random, 0, 3);
        int due = read(into);
        Due.is("run " + run + ": read(" + into + ") of " + before, few.read(into), due);
        Due.is("count(2)", few.count(2), text.length());
        if (due < 0 && random.nextInt(4) > 0) {
            Due.is("clear()", few.clear(), text.length());
            text = "";
        }
        int i = number(random, 0, 3);
        int j = number(random, 0, 3);
        for (int what = -1; what <= 8; what++) {
            Due.is("formula(" + i + ", " + what + ") of " + before, few.formula(i, what), formula(i, what));
            Due.is("both(" + i + ", " + j + ", " + what + ")", few.both(i, j, what), both(i, j, what));
        }
        Due.is("leastened(" + i + ")", few.leastened(i), i < 0 || i > 3 ? BAD : barred(3) ? STATE
                : leastCosts(3)[formulas[i][0]]);
    }

    private void typeSome(FewSigns few, Random random) {
        StringBuilder some = new StringBuilder();
        grow(some, random, random.nextInt(10));
        if (random.nextInt(3) == 0 && some.length() > 0) {
            spoil(some, random);
        }
        for (int from = 0; from < some.length();) {
            int n = Math.min(some.length() - from, 1 + random.nextInt(8));
            long v = random.nextLong();
            for (int i = 0; i < n; i++) {
                v = v << 8 | some.charAt(from + i);
            }
            String more = text + some.substring(from, from + n);
            int due = more.length() > 80 ? FULL : more.length();
            text = due == FULL ? text : more;
            Due.is("type(" + v + ", " + n + ")", few.type(v, n), due);
            from += n;
        }
        int wrong = number(random, 9, 20);
        Due.is("type(0, " + wrong + ")", few.type(0, wrong), wrong >= 1 && wrong <= 8
                ? tooLong(wrong) : BAD);
    }

    private int tooLong(int n) {
        int due = text.length() + n > 80 ? FULL : text.length() + n;
        text = due == FULL ? text : text + "\u0000".repeat(n);
        return due;
    }

    private void grow(StringBuilder into, Random random, int deep) {
        int s = signs == 0 || deep <= 0 || into.length() > 70 ? -1 : random.nextInt(signs);
        if (s < 0) {
            into.append((char) ('x' + random.nextInt(3)));
            return;
        }
        into.append((char) ('p' + s));
        for (int i = 0; i < places[s]; i++) {
            into.append(i == 0 ? '(' : ',');
            grow(into, random, deep - 1 - random.nextInt(2));
        }
        into.append(places[s] > 0 ? ")" : "");
    }

    private static void spoil(StringBuilder some, Random random) {
        int at = random.nextInt(some.length());
        char any = random.nextInt(3) == 0 ? (char) random.nextInt(256) : "xyzpqrstu(),".charAt(random.nextInt(12));
        switch (random.nextInt(3)) {
            case 0: some.setCharAt(at, any); break;
            case 1: some.insert(at, any); break;
            default: some.deleteCharAt(at); break;
        }
    }

    /** Each sign by itself, all that it says and keeps. */
    private static void everyTableAlone() {
        for (int k = 0; k <= 3; k++) {
            for (int table = 0; table < size(k); table++) {
                FewSigns few = new FewSigns();
                OracleTest slow = new OracleTest();
                slow.signs = 1;
                slow.places[0] = k;
                slow.tables[0] = table;
                slow.costs[0] = 1 + table % 9;
                String of = " by sign " + k + ", " + table;
                Due.is("sign" + of, few.sign(k, table, 1 + table % 9), 0);
                Due.is("about 3" + of, few.about(0, 3), keeps(k, table));
                for (int n = 1; n <= 2; n++) {
                    for (int t = 0; t < size(n); t++) {
                        int cost = slow.leastCosts(n)[t];
                        Due.is("least " + n + ", " + t + of, few.least(n, t), cost == MANY ? NONE : cost);
                        for (int part = -1; part <= 2; part++) {
                            Due.is("by " + n + ", " + t + ", " + part + of, few.by(n, t, part), slow.by(n, t, part));
                        }
                        Due.is("around " + n + ", " + t + of, few.around(n, t), slow.around(n, t));
                        Due.is("lets " + n + ", " + t + of, few.lets(0, n, t), lets(k, table, n, t) ? 1 : 0);
                    }
                    Due.is("kept " + n + of, few.kept(n), slow.kept(n));
                }
                for (int rows = 0; rows < 256; rows++) {
                    Due.is("lets 3, " + rows + of, few.lets(0, 3, rows), lets(k, table, 3, rows) ? 1 : 0);
                }
            }
        }
        FewSigns few = new FewSigns();
        for (int r = 1; r <= 3; r++) {
            for (int rows = 0; rows < size(r); rows++) {
                Due.is("sorts " + r + ", " + rows, few.sorts(r, rows), sorts(r, rows));
            }
        }
    }
}
