/**
 * What few signs can say: signs with tables of truth, joined over and over.
 *
 * A table of n places is held as bits: bit r tells what the table tells of row r, and row r has in
 * place i what bit i of r is.
 */
public final class FewSigns {
    public static final int BAD = -1, STATE = -2, FULL = -3, NONE = -9;

    private static final int MOST_SIGNS = 6;
    private static final int MOST_PLACES = 3;
    private static final int MOST_COST = 9;
    private static final int FORMULAS = 4;
    private static final int TABLES_OF_TWO = 16;
    private static final int UNKNOWN = -1;

    /** The six sorts are what six tables let: 0, 1, and, or, the sum of three, most of three. */
    private static final int[] SORT_PLACES = {0, 0, 2, 2, 3, 3};
    private static final int[] SORT_TABLES = {0, 1, 8, 14, 150, 232};

    private final Signs signs;
    private final Reach ofOne;
    private final Reach ofTwo;
    private final Reach ofThree;
    private final Text text;
    private final Reader reader;
    private final Formula[] formulas;
    private final int[] keptCounts;

    public FewSigns() {
        signs = new Signs();
        ofOne = new Reach(1);
        ofTwo = new Reach(2);
        ofThree = new Reach(3);
        text = new Text();
        reader = new Reader(text, signs);
        formulas = new Formula[FORMULAS];
        for (int i = 0; i < FORMULAS; i++) {
            formulas[i] = new Formula();
        }
        keptCounts = new int[MOST_PLACES + 1];
        forgetAnswers();
    }

    // ---- signs

    public int sign(int places, int table, int cost) {
        if (!Tables.fits(places, table) || cost < 1 || cost > MOST_COST) {
            return BAD;
        }
        if (signs.size >= MOST_SIGNS) {
            return FULL;
        }
        int number = signs.append(places, table, cost);
        forgetAnswers();
        return number;
    }

    public int drop() {
        if (signs.size < 1) {
            return BAD;
        }
        signs.size--;
        forgetAnswers();
        return signs.size;
    }

    public int about(int i, int what) {
        if (!signs.has(i)) {
            return BAD;
        }
        Sign sign = signs.list[i];
        switch (what) {
            case 0: return sign.places;
            case 1: return sign.table;
            case 2: return sign.cost;
            case 3: return sign.keptBits;
            default: return BAD;
        }
    }

    public int keeps(int n, int table) {
        return Tables.fits(n, table) ? Tables.keptBits(n, table) : BAD;
    }

    // ---- what can be said

    public int reached(int n) {
        if (!isCount(n)) {
            return BAD;
        }
        return isBarred(n) ? STATE : reachOf(n).settled;
    }

    public int least(int n, int table) {
        if (!isCount(n) || !Tables.fits(n, table)) {
            return BAD;
        }
        return isBarred(n) ? STATE : reachOf(n).leastCost(table);
    }

    public int by(int n, int table, int part) {
        if (!isCount(n) || !Tables.fits(n, table) || part < -1 || part >= MOST_PLACES) {
            return BAD;
        }
        if (isBarred(n)) {
            return STATE;
        }
        int way = reachOf(n).wayTo(table);
        if (way < 0) {
            return NONE;
        }
        int letter = Way.letter(way);
        if (part == -1) {
            return letter;
        }
        return signs.has(letter) && part < signs.list[letter].places ? Way.part(way, part) : NONE;
    }

    public int farthest(int n, int what) {
        if (!isCount(n) || what < 0 || what > 2) {
            return BAD;
        }
        if (isBarred(n)) {
            return STATE;
        }
        Reach reach = reachOf(n);
        switch (what) {
            case 0: return reach.greatestCost();
            case 1: return reach.firstCosting(reach.greatestCost());
            default: return reach.firstUnreached();
        }
    }

    public int costing(int n, int cost) {
        if (!isCount(n) || cost < 0) {
            return BAD;
        }
        return isBarred(n) ? STATE : reachOf(n).howManyCost(cost);
    }

    // ---- families

    public int says(int set) {
        if (!signs.hasAll(set)) {
            return BAD;
        }
        return signs.saysAll(set) ? 1 : 0;
    }

    public int lacks(int set) {
        return signs.hasAll(set) ? signs.keptByAll(set) : BAD;
    }

    public int sets(int i) {
        if (i < -1) {
            return BAD;
        }
        int found = 0;
        for (int set = 0; set < 1 << signs.size; set++) {
            if (signs.isLeastSet(set)) {
                if (found == i) {
                    return set;
                }
                found++;
            }
        }
        return i == -1 ? found : NONE;
    }

    public int alone(int i) {
        if (i < -1) {
            return BAD;
        }
        int found = 0;
        for (int table = 0; table < TABLES_OF_TWO; table++) {
            if (Tables.keptBits(2, table) == 0) {
                if (found == i) {
                    return table;
                }
                found++;
            }
        }
        return i == -1 ? found : NONE;
    }

    // ---- relations

    public int lets(int i, int r, int rows) {
        if (!signs.has(i) || !isRelation(r, rows)) {
            return BAD;
        }
        return signs.list[i].preserves(r, rows) ? 1 : 0;
    }

    public int letting(int r, int rows) {
        if (!isRelation(r, rows)) {
            return BAD;
        }
        int bits = 0;
        for (int i = 0; i < signs.size; i++) {
            if (signs.list[i].preserves(r, rows)) {
                bits |= 1 << i;
            }
        }
        return bits;
    }

    public int around(int r, int rows) {
        return isRelation(r, rows) ? signs.grown(r, rows) : BAD;
    }

    public int sorts(int r, int rows) {
        if (!isRelation(r, rows)) {
            return BAD;
        }
        int bits = 0;
        for (int i = 0; i < SORT_TABLES.length; i++) {
            int places = SORT_PLACES[i];
            int wide = Tables.widened(places, SORT_TABLES[i]);
            if ((Tables.toldRows(places, wide, r, rows) & ~rows) == 0) {
                bits |= 1 << i;
            }
        }
        return bits;
    }

    public int kept(int r) {
        if (!isCount(r)) {
            return BAD;
        }
        if (keptCounts[r] == UNKNOWN) {
            keptCounts[r] = signs.preservedRelations(r);
        }
        return keptCounts[r];
    }

    // ---- formulas

    public int type(long v, int n) {
        if (n < 1 || n > 8) {
            return BAD;
        }
        if (!text.hasRoom(n)) {
            return FULL;
        }
        text.append(v, n);
        return text.length;
    }

    public int clear() {
        int had = text.length;
        text.length = 0;
        return had;
    }

    public int read(int i) {
        if (!isFormula(i)) {
            return BAD;
        }
        if (!reader.understands()) {
            return -10 - reader.place;
        }
        Formula formula = formulas[i];
        formula.become(reader.table, reader.cost, reader.depth, reader.letters);
        text.length = 0;
        return formula.letters;
    }

    public int formula(int i, int what) {
        if (!isFormula(i)) {
            return BAD;
        }
        Formula formula = formulas[i];
        switch (what) {
            case 0: return formula.table;
            case 1: return formula.cost;
            case 2: return formula.depth;
            case 3: return formula.letters;
            case 4: return Tables.matteringPlaces(MOST_PLACES, formula.table);
            case 5: return Tables.otherHalf(MOST_PLACES, formula.table);
            case 6: return Integer.bitCount(formula.table);
            case 7: return Tables.keptBits(MOST_PLACES, formula.table);
            default: return BAD;
        }
    }

    public int leastened(int i) {
        if (!isFormula(i)) {
            return BAD;
        }
        return isBarred(MOST_PLACES) ? STATE : reachOf(MOST_PLACES).leastCost(formulas[i].table);
    }

    public int both(int i, int j, int what) {
        if (!isFormula(i) || !isFormula(j) || what < 0 || what > 2) {
            return BAD;
        }
        int one = formulas[i].table;
        int other = formulas[j].table;
        boolean holds;
        switch (what) {
            case 0: holds = one == other; break;
            case 1: holds = (one & ~other) == 0; break;
            default: holds = Tables.otherHalf(MOST_PLACES, one) == other; break;
        }
        return holds ? 1 : 0;
    }

    public int count(int what) {
        switch (what) {
            case 0: return signs.size;
            case 1: return signs.ofThreePlaces();
            case 2: return text.length;
            default: return BAD;
        }
    }

    // ---- what the calls share

    /** Formulas and answers kept for later hold only for the signs they were made with. */
    private void forgetAnswers() {
        ofOne.fresh = false;
        ofTwo.fresh = false;
        ofThree.fresh = false;
        for (int i = 0; i < keptCounts.length; i++) {
            keptCounts[i] = UNKNOWN;
        }
        for (int i = 0; i < formulas.length; i++) {
            formulas[i].becomeX();
        }
    }

    private static boolean isCount(int n) {
        return n >= 1 && n <= MOST_PLACES;
    }

    private static boolean isRelation(int r, int rows) {
        return isCount(r) && Tables.fits(r, rows);
    }

    private static boolean isFormula(int i) {
        return i >= 0 && i < FORMULAS;
    }

    /** Tables of three places are not joined by signs of three places. */
    private boolean isBarred(int n) {
        return n == MOST_PLACES && signs.ofThreePlaces() > 0;
    }

    private Reach reachOf(int n) {
        Reach reach = n == 1 ? ofOne : n == 2 ? ofTwo : ofThree;
        if (!reach.fresh) {
            reach.explore(signs);
        }
        return reach;
    }

    /** What can be told of tables without any sign. */
    private static final class Tables {
        private static final int NOUGHT = 1, ONE = 2, TURNED = 4, RISING = 8, SUM = 16;
        private static final int ALL_FIVE = 31;

        /** What a table of so many places is taken times, to stand over and over in eight rows. */
        private static final int[] REPEATS = {255, 85, 17, 1};

        static boolean fits(int places, int table) {
            return places >= 0 && places <= MOST_PLACES && table >= 0 && table <= full(places);
        }

        /** The table of so many places that tells 1 of all rows. */
        static int full(int places) {
            return (1 << (1 << places)) - 1;
        }

        /** The table of x, y or z as bits over any number of rows; full() cuts it. */
        static int ofPlace(int place) {
            return place == 0 ? 170 : place == 1 ? 204 : 240;
        }

        static int bit(int table, int row) {
            return table >> row & 1;
        }

        /** A table as one of three places that heeds only its own: then all signs join alike. */
        static int widened(int places, int table) {
            return places >= 0 && places <= MOST_PLACES ? table * REPEATS[places] : table;
        }

        /** Bit by bit: of one, where chooser is 1; of nought, where it is 0. */
        static int pick(int chooser, int one, int nought) {
            return chooser & one | ~chooser & nought;
        }

        private static int tellOfTwo(int table, int a, int b) {
            int one = pick(a, -bit(table, 3), -bit(table, 2));
            int nought = pick(a, -bit(table, 1), -bit(table, 0));
            return pick(b, one, nought);
        }

        /** What a widened table tells of a, b, c bit by bit; the caller cuts off the bits beyond. */
        static int tell(int wide, int a, int b, int c) {
            return pick(c, tellOfTwo(wide >> 4, a, b), tellOfTwo(wide, a, b));
        }

        /** The rows of r values that a table tells of some rows; places it lacks take row 0 alone. */
        static int toldRows(int places, int wide, int r, int rows) {
            int last = (1 << r) - 1;
            int firsts = places > 0 ? rows : 1;
            int seconds = places > 1 ? rows : 1;
            int thirds = places > 2 ? rows : 1;
            int told = 0;
            for (int a = 0; a <= last; a++) {
                for (int b = 0; b <= last && bit(firsts, a) == 1; b++) {
                    if (bit(seconds, b) == 1) {
                        int one = tellOfTwo(wide >> 4, a, b);
                        int nought = tellOfTwo(wide, a, b);
                        told |= pickedRows(one, nought, last, thirds);
                    }
                }
            }
            return told;
        }

        private static int pickedRows(int one, int nought, int last, int choosers) {
            int picked = 0;
            for (int c = 0; c <= last; c++) {
                if (bit(choosers, c) == 1) {
                    picked |= 1 << (pick(c, one, nought) & last);
                }
            }
            return picked;
        }

        static int otherHalf(int places, int table) {
            int last = (1 << places) - 1;
            int half = 0;
            for (int row = 0; row <= last; row++) {
                half |= (1 - bit(table, last - row)) << row;
            }
            return half;
        }

        static int matteringPlaces(int places, int table) {
            int bits = 0;
            for (int place = 0; place < places; place++) {
                for (int row = 0; row < 1 << places; row++) {
                    if (bit(table, row) != bit(table, row ^ 1 << place)) {
                        bits |= 1 << place;
                    }
                }
            }
            return bits;
        }

        /** Which of the five a table keeps, as bits. */
        static int keptBits(int places, int table) {
            int bits = 0;
            if (bit(table, 0) == 0) {
                bits |= NOUGHT;
            }
            if (bit(table, (1 << places) - 1) == 1) {
                bits |= ONE;
            }
            if (otherHalf(places, table) == table) {
                bits |= TURNED;
            }
            if (isRising(places, table)) {
                bits |= RISING;
            }
            if (isSum(places, table)) {
                bits |= SUM;
            }
            return bits;
        }

        private static boolean isRising(int places, int table) {
            for (int place = 0; place < places; place++) {
                for (int row = 0; row < 1 << places; row++) {
                    if (bit(table, row) > bit(table, row | 1 << place)) {
                        return false;
                    }
                }
            }
            return true;
        }

        /** A sum is settled by the row of all 0 and the rows with one 1. */
        private static boolean isSum(int places, int table) {
            int start = bit(table, 0);
            int sum = start == 1 ? full(places) : 0;
            for (int place = 0; place < places; place++) {
                if (bit(table, 1 << place) != start) {
                    sum ^= ofPlace(place) & full(places);
                }
            }
            return sum == table;
        }
    }

    private static final class Sign {
        int places;
        int table;
        int cost;
        int wide;
        int keptBits;

        void become(int newPlaces, int newTable, int newCost) {
            places = newPlaces;
            table = newTable;
            cost = newCost;
            wide = Tables.widened(newPlaces, newTable);
            keptBits = Tables.keptBits(newPlaces, newTable);
        }

        boolean preserves(int r, int rows) {
            return (Tables.toldRows(places, wide, r, rows) & ~rows) == 0;
        }
    }

    /** The signs told so far, and what sets of them do together. */
    private static final class Signs {
        final Sign[] list = new Sign[MOST_SIGNS];
        int size;

        Signs() {
            for (int i = 0; i < MOST_SIGNS; i++) {
                list[i] = new Sign();
            }
        }

        boolean has(int i) {
            return i >= 0 && i < size;
        }

        boolean hasAll(int set) {
            return set >= 0 && set < 1 << size;
        }

        /** The new sign's number; the caller has seen that there is room. */
        int append(int places, int table, int cost) {
            int number = size;
            if (number >= 0 && number < MOST_SIGNS) {
                list[number].become(places, table, cost);
                size++;
            }
            return number;
        }

        int ofThreePlaces() {
            int found = 0;
            for (int i = 0; i < size; i++) {
                if (list[i].places == MOST_PLACES) {
                    found++;
                }
            }
            return found;
        }

        int keptByAll(int set) {
            int bits = Tables.ALL_FIVE;
            for (int i = 0; i < size; i++) {
                if ((set >> i & 1) == 1) {
                    bits &= list[i].keptBits;
                }
            }
            return bits;
        }

        boolean saysAll(int set) {
            return keptByAll(set) == 0;
        }

        boolean isLeastSet(int set) {
            if (!saysAll(set)) {
                return false;
            }
            for (int i = 0; i < size; i++) {
                if ((set >> i & 1) == 1 && saysAll(set ^ 1 << i)) {
                    return false;
                }
            }
            return true;
        }

        boolean allPreserve(int r, int rows) {
            for (int i = 0; i < size; i++) {
                if (!list[i].preserves(r, rows)) {
                    return false;
                }
            }
            return true;
        }

        int preservedRelations(int r) {
            int found = 0;
            for (int rows = 0; rows <= Tables.full(r); rows++) {
                if (allPreserve(r, rows)) {
                    found++;
                }
            }
            return found;
        }

        /** The least relation with these rows that all signs let. */
        int grown(int r, int rows) {
            int all = rows;
            // Each round but the last adds a row at least, so as many rounds as rows are enough.
            for (int round = 0; round < 1 << r; round++) {
                int before = all;
                for (int i = 0; i < size; i++) {
                    all |= Tables.toldRows(list[i].places, list[i].wide, r, all);
                }
                if (all == before) {
                    break;
                }
            }
            return all;
        }
    }

    /** How a table comes by a sign: its letter, then its parts, in one number that orders them. */
    private static final class Way {
        private static final int WITHOUT_SIGN = -1;
        private static final int PART_BITS = 8;
        private static final int PART_MASK = 255;

        static int begin(int letter) {
            return letter << PART_BITS * MOST_PLACES;
        }

        static int with(int way, int part, int table) {
            return way | table << shiftOf(part);
        }

        static int letter(int way) {
            return way >> PART_BITS * MOST_PLACES;
        }

        static int part(int way, int part) {
            return way >> shiftOf(part) & PART_MASK;
        }

        private static int shiftOf(int part) {
            return PART_BITS * (MOST_PLACES - 1 - part);
        }
    }

    /**
     * All tables of n places that come, with their least costs.
     *
     * Tables are settled from the cheapest on. Each newly settled one is joined with all that were
     * settled before, so that every join of settled tables is looked at once; since every sign
     * costs something, all least joins of a table are seen before the table itself is settled.
     */
    private static final class Reach {
        /** Far above any cost that six signs can come to; NOTES.md has the bounds. */
        private static final int UNREACHED = 1 << 30;

        private final int places;
        private final int full;
        private final int[] cost;
        private final int[] way;
        private final boolean[] isSettled;
        private final int[] order;
        private int dearest;
        int settled;
        boolean fresh;

        Reach(int n) {
            places = n;
            full = Tables.full(n);
            cost = new int[full + 1];
            way = new int[full + 1];
            isSettled = new boolean[full + 1];
            order = new int[full + 1];
        }

        void explore(Signs signs) {
            begin(signs);
            for (int step = 0; step <= full; step++) {
                int next = cheapestOpen();
                if (next < 0) {
                    break;
                }
                isSettled[next] = true;
                order[settled] = next;
                settled++;
                for (int i = 0; i < signs.size; i++) {
                    join(signs.list[i], i, next);
                }
            }
            fresh = true;
        }

        private void begin(Signs signs) {
            settled = 0;
            for (int table = 0; table <= full; table++) {
                cost[table] = UNREACHED;
                way[table] = Way.WITHOUT_SIGN;
                isSettled[table] = false;
            }
            for (int place = 0; place < places; place++) {
                cost[Tables.ofPlace(place) & full] = 0;
            }
            for (int i = 0; i < signs.size; i++) {
                Sign sign = signs.list[i];
                if (sign.places == 0) {
                    offer(-sign.table, sign.cost, Way.begin(i));
                }
            }
        }

        /** The cheapest table that is not settled, or -1; sees how dear a join may yet be, too. */
        private int cheapestOpen() {
            int best = -1;
            dearest = 0;
            for (int table = 0; table <= full; table++) {
                int here = cost[table];
                if (here > dearest) {
                    dearest = here;
                }
                if (here != UNREACHED && !isSettled[table] && (best < 0 || here < cost[best])) {
                    best = table;
                }
            }
            return best;
        }

        private void join(Sign sign, int letter, int next) {
            for (int at = 0; at < sign.places; at++) {
                joinAt(sign, Way.with(Way.begin(letter), at, next), next, at);
            }
        }

        /** All joins by a sign with next at one of its places, and settled tables at the others. */
        private void joinAt(Sign sign, int begun, int next, int at) {
            int second = at == 0 ? 1 : 0;
            int third = at == 2 ? 1 : 2;
            int neither = leftOf(sign, next, at, 0);
            int secondAlone = leftOf(sign, next, at, 1 << second);
            int thirdAlone = leftOf(sign, next, at, 1 << third);
            int together = leftOf(sign, next, at, 1 << second | 1 << third);
            int price = sign.cost + cost[next];
            if (sign.places < 2) {
                offer(neither, price, begun);
                return;
            }
            for (int k = 0; k < settled; k++) {
                int table = order[k];
                int sum = price + cost[table];
                if (sum > dearest) {
                    break;
                }
                int nought = Tables.pick(table, secondAlone, neither);
                int going = Way.with(begun, second, table);
                if (sign.places < 3) {
                    offer(nought, sum, going);
                } else {
                    joinLast(Tables.pick(table, together, thirdAlone), nought, sum, going, third);
                }
            }
        }

        private void joinLast(int one, int nought, int price, int begun, int at) {
            for (int k = 0; k < settled; k++) {
                int table = order[k];
                int sum = price + cost[table];
                if (sum > dearest) {
                    break;
                }
                offer(Tables.pick(table, one, nought), sum, Way.with(begun, at, table));
            }
        }

        /** What a sign tells with next at one place, where the other places have their bits of row. */
        private static int leftOf(Sign sign, int next, int at, int row) {
            int one = -Tables.bit(sign.wide, row | 1 << at);
            int nought = -Tables.bit(sign.wide, row);
            return Tables.pick(next, one, nought);
        }

        private void offer(int told, int price, int going) {
            int table = told & full;
            if (price < cost[table] || price == cost[table] && going < way[table]) {
                cost[table] = price;
                way[table] = going;
            }
        }

        private boolean covers(int table) {
            return table >= 0 && table <= full && cost[table] != UNREACHED;
        }

        int leastCost(int table) {
            return covers(table) ? cost[table] : NONE;
        }

        int wayTo(int table) {
            return covers(table) ? way[table] : Way.WITHOUT_SIGN;
        }

        int greatestCost() {
            int greatest = 0;
            for (int table = 0; table <= full; table++) {
                if (covers(table)) {
                    greatest = Math.max(greatest, cost[table]);
                }
            }
            return greatest;
        }

        int firstCosting(int price) {
            for (int table = 0; table <= full; table++) {
                if (covers(table) && cost[table] == price) {
                    return table;
                }
            }
            return NONE;
        }

        int firstUnreached() {
            for (int table = 0; table <= full; table++) {
                if (!covers(table)) {
                    return table;
                }
            }
            return NONE;
        }

        int howManyCost(int price) {
            int found = 0;
            for (int table = 0; table <= full; table++) {
                if (covers(table) && cost[table] == price) {
                    found++;
                }
            }
            return found;
        }
    }

    private static final class Text {
        private static final int MOST_BYTES = 80;

        private final byte[] bytes = new byte[MOST_BYTES];
        int length;

        boolean hasRoom(int n) {
            return length + n <= MOST_BYTES;
        }

        void append(long v, int n) {
            for (int i = n - 1; i >= 0 && length < MOST_BYTES; i--) {
                bytes[length] = (byte) (v >>> 8 * i);
                length++;
            }
        }

        /** The byte at a place, or -1 behind the text. */
        int byteAt(int place) {
            return place >= 0 && place < length && place < MOST_BYTES ? bytes[place] & 255 : -1;
        }
    }

    private static final class Formula {
        int table;
        int cost;
        int depth;
        int letters;

        void becomeX() {
            become(Tables.ofPlace(0), 0, 0, 1);
        }

        void become(int newTable, int newCost, int newDepth, int newLetters) {
            table = newTable;
            cost = newCost;
            depth = newDepth;
            letters = newLetters;
        }
    }

    /** Reads the text as a formula; where it can't go on, its place stays at the fault. */
    private static final class Reader {
        private static final int MOST_LETTERS = 30;
        private static final int MOST_OPEN = 8;
        private static final int FAULTY = -1;

        private final Text text;
        private final Signs signs;
        int place;
        int table;
        int cost;
        int depth;
        int letters;

        Reader(Text read, Signs known) {
            text = read;
            signs = known;
        }

        boolean understands() {
            place = 0;
            cost = 0;
            depth = 0;
            letters = 0;
            table = tableOfNext(0);
            return table != FAULTY && place == text.length;
        }

        /** The table of the formula that begins here, with so many brackets open; leaves its depth. */
        private int tableOfNext(int open) {
            int letter = text.byteAt(place);
            boolean isPlace = letter >= 'x' && letter <= 'z';
            if (letters >= MOST_LETTERS || !isPlace && !signs.has(letter - 'p')) {
                return FAULTY;
            }
            place++;
            letters++;
            if (isPlace) {
                depth = 0;
                return Tables.ofPlace(letter - 'x');
            }
            Sign sign = signs.list[letter - 'p'];
            cost += sign.cost;
            if (sign.places == 0) {
                depth = 1;
                return sign.wide;
            }
            return tableOfParts(sign, open);
        }

        private int tableOfParts(Sign sign, int open) {
            if (open >= MOST_OPEN || !takes('(')) {
                return FAULTY;
            }
            int a = 0;
            int b = 0;
            int c = 0;
            int deepest = 0;
            for (int part = 0; part < sign.places; part++) {
                if (part > 0 && !takes(',')) {
                    return FAULTY;
                }
                int told = tableOfNext(open + 1);
                if (told == FAULTY) {
                    return FAULTY;
                }
                deepest = Math.max(deepest, depth);
                switch (part) {
                    case 0: a = told; break;
                    case 1: b = told; break;
                    default: c = told; break;
                }
            }
            if (!takes(')')) {
                return FAULTY;
            }
            depth = deepest + 1;
            return Tables.tell(sign.wide, a, b, c) & Tables.full(MOST_PLACES);
        }

        private boolean takes(char wanted) {
            if (text.byteAt(place) != wanted) {
                return false;
            }
            place++;
            return true;
        }
    }
}
