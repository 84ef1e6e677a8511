/** The boundary cases of promises 6 to 10, and of what the document says of FORMULAS, REACHED, LEAST COST and BY. */
public final class EdgesOfSayingTest {
    private static final int BAD = FewSigns.BAD, STATE = FewSigns.STATE, NONE = FewSigns.NONE;
    private static final int LOWEST = Integer.MIN_VALUE, HIGHEST = Integer.MAX_VALUE;
    private static final int[] TABLES = {2, 4, 16, 256};
    private static final int[] NO_COUNT = {0, -1, 4, 5, 31, 32, 33, 34, 35, -29, LOWEST, HIGHEST};
    private static final int[][] PLACES = {{}, {2}, {10, 12}, {170, 204, 240}};

    public static void main(String[] args) {
        reachedCounts();
        reachedByNone();
        reachedAllAndFew();
        stateOfThreePlaces();
        stateComesAndGoes();
        badAheadOfState();
        leastTables();
        leastOfPlaces();
        leastOfWhatDoesNotCome();
        leastCountsEachSign();
        leastOfDearSigns();
        byTables();
        byParts();
        byOfPlaces();
        byOfWhatDoesNotCome();
        byPartsThatASignLacks();
        byTheLeastLetter();
        byTheLeastParts();
        farthestWhat();
        farthestWherePlacesAreAll();
        farthestNotReached();
        farthestOfSomeAlike();
        costingBelowNought();
        costingNought();
        costingFarBeyond();
        costingAllTogether();
        Due.end("EdgesOfSayingTest");
    }

    private static FewSigns nand(int cost) {
        FewSigns few = new FewSigns();
        few.sign(2, 7, cost);
        return few;
    }

    /** A sign of three places, so that tables of three places are not told. */
    private static FewSigns barred() {
        FewSigns few = nand(1);
        few.sign(3, 232, 1);
        return few;
    }

    // ---- promise 6

    /** "BAD: n 1 .. 3" */
    private static void reachedCounts() {
        FewSigns few = nand(1);
        for (int n : NO_COUNT) {
            Due.is("reached(" + n + ")", few.reached(n), BAD);
        }
        for (int n = 1; n <= 3; n++) {
            Due.is("reached(" + n + ") by nand", few.reached(n), TABLES[n]);
        }
    }

    /** "x, y, z (the first n of these ..)": no signs, no other tables. */
    private static void reachedByNone() {
        FewSigns few = new FewSigns();
        for (int n = 1; n <= 3; n++) {
            Due.is("reached(" + n + ") by none", few.reached(n), n);
        }
        for (int table = 0; table < 16; table++) {
            Due.is("least(2, " + table + ") by none", few.least(2, table), table == 10 || table == 12 ? 0 : NONE);
        }
    }

    private static void reachedAllAndFew() {
        FewSigns few = new FewSigns();
        few.sign(2, 10, 9);
        few.sign(1, 2, 9);
        for (int n = 1; n <= 3; n++) {
            Due.is("reached(" + n + ") by signs that tell a place of theirs", few.reached(n), n);
        }
        few.sign(0, 0, 1);
        for (int n = 1; n <= 3; n++) {
            Due.is("reached(" + n + ") with 0", few.reached(n), n + 1);
        }
        few.sign(1, 3, 1);
        for (int n = 1; n <= 3; n++) {
            Due.is("reached(" + n + ") with 0, 1", few.reached(n), n + 2);
        }
    }

    /** "(Of 3 places only where no SIGN has 3 places; else STATE.)": whatever that sign tells. */
    private static void stateOfThreePlaces() {
        for (int table = 0; table < 256; table += 15) {
            FewSigns few = new FewSigns();
            few.sign(3, table, 1);
            Due.is("reached(3), sign " + table, few.reached(3), STATE);
            Due.is("least(3, 170), sign " + table, few.least(3, 170), STATE);
            Due.is("by(3, 170, -1), sign " + table, few.by(3, 170, -1), STATE);
            Due.is("farthest(3, 0), sign " + table, few.farthest(3, 0), STATE);
            Due.is("costing(3, 0), sign " + table, few.costing(3, 0), STATE);
            Due.is("least(2, 10), sign " + table, few.least(2, 10), 0);
            Due.is("least(1, 2), sign " + table, few.least(1, 2), 0);
            Due.holds("reached(2), sign " + table, few.reached(2) >= 2);
            Due.holds("reached(1), sign " + table, few.reached(1) >= 1);
        }
    }

    private static void stateComesAndGoes() {
        FewSigns few = nand(1);
        Due.is("reached(3)", few.reached(3), 256);
        few.sign(3, 232, 1);
        Due.is("a sign of three places came", few.reached(3), STATE);
        few.sign(0, 0, 1);
        Due.is("it is not the last", few.reached(3), STATE);
        few.drop();
        Due.is("another is gone", few.reached(3), STATE);
        few.drop();
        Due.is("it is gone", few.reached(3), 256);
        few.sign(3, 256, 1);
        Due.is("one was refused", few.reached(3), 256);
    }

    /** "the first of these: BAD .., STATE" */
    private static void badAheadOfState() {
        FewSigns few = barred();
        Due.is("reached(4)", few.reached(4), BAD);
        Due.is("reached(0)", few.reached(0), BAD);
        Due.is("least(3, 256)", few.least(3, 256), BAD);
        Due.is("least(3, -1)", few.least(3, -1), BAD);
        Due.is("by(3, 256, 0)", few.by(3, 256, 0), BAD);
        Due.is("by(3, -1, 0)", few.by(3, -1, 0), BAD);
        Due.is("by(3, 0, -2)", few.by(3, 0, -2), BAD);
        Due.is("by(3, 0, 3)", few.by(3, 0, 3), BAD);
        Due.is("farthest(3, -1)", few.farthest(3, -1), BAD);
        Due.is("farthest(3, 3)", few.farthest(3, 3), BAD);
        Due.is("costing(3, -1)", few.costing(3, -1), BAD);
        Due.is("by(3, 0, 2)", few.by(3, 0, 2), STATE);
        Due.is("farthest(3, 2)", few.farthest(3, 2), STATE);
        Due.is("costing(3, MAX)", few.costing(3, HIGHEST), STATE);
    }

    // ---- promise 7

    private static void leastTables() {
        FewSigns few = nand(1);
        for (int n : NO_COUNT) {
            Due.is("least(" + n + ", 0)", few.least(n, 0), BAD);
            Due.is("least(" + n + ", 1)", few.least(n, 1), BAD);
        }
        for (int n = 1; n <= 3; n++) {
            int[] none = {-1, TABLES[n], TABLES[n] + 1, LOWEST, HIGHEST};
            for (int table : none) {
                Due.is("least(" + n + ", " + table + ")", few.least(n, table), BAD);
            }
            Due.is("least of the first of " + n, few.least(n, 0), 5);
            Due.is("least of the last of " + n, few.least(n, TABLES[n] - 1), 2);
        }
    }

    /** "x, y, z cost nothing": though a sign says the same. */
    private static void leastOfPlaces() {
        FewSigns few = new FewSigns();
        few.sign(1, 2, 1);
        few.sign(2, 12, 1);
        for (int n = 1; n <= 3; n++) {
            for (int table : PLACES[n]) {
                Due.is("least(" + n + ", " + table + ")", few.least(n, table), 0);
            }
        }
    }

    /** "NONE: it is not REACHED." */
    private static void leastOfWhatDoesNotCome() {
        FewSigns few = new FewSigns();
        few.sign(1, 1, 3);
        Due.is("least(1, 0) by not", few.least(1, 0), NONE);
        Due.is("least(1, 3) by not", few.least(1, 3), NONE);
        Due.is("least(1, 1) by not", few.least(1, 1), 3);
        Due.is("least(3, 255) by not", few.least(3, 255), NONE);
        Due.is("least(3, 15) by not", few.least(3, 15), 3);
        few.sign(0, 1, 9);
        Due.is("least(3, 255) by not, 1", few.least(3, 255), 9);
        Due.is("least(3, 0) by not, 1", few.least(3, 0), 12);
        few.drop();
        Due.is("least(3, 255), 1 is gone", few.least(3, 255), NONE);
    }

    /** "each as often as it stands" */
    private static void leastCountsEachSign() {
        FewSigns few = new FewSigns();
        few.sign(2, 8, 4);
        Due.is("and of three", few.least(3, 128), 8);
        few.sign(1, 1, 1);
        Due.is("0 is and of x, not x", few.least(1, 0), 5);
        Due.is("or is not of and of not, not", few.least(2, 14), 7);
        Due.is("sum: neither both nor none, three ands and four nots", few.least(2, 6), 3 * 4 + 4);
    }

    /** The greatest costs of signs, 9, make tables as many times dearer. */
    private static void leastOfDearSigns() {
        FewSigns cheap = nand(1);
        FewSigns dear = nand(9);
        for (int table = 0; table < 256; table++) {
            Due.is("least(3, " + table + ") of cost 9", dear.least(3, table), 9 * cheap.least(3, table));
        }
        Due.is("the sum of three, 14 times", dear.least(3, 150), 126);
    }

    // ---- promise 8

    private static void byTables() {
        FewSigns few = nand(1);
        for (int n : NO_COUNT) {
            Due.is("by(" + n + ", 0, -1)", few.by(n, 0, -1), BAD);
            Due.is("by(" + n + ", 1, 0)", few.by(n, 1, 0), BAD);
        }
        for (int n = 1; n <= 3; n++) {
            int[] none = {-1, TABLES[n], TABLES[n] + 1, LOWEST, HIGHEST};
            for (int table : none) {
                Due.is("by(" + n + ", " + table + ", -1)", few.by(n, table, -1), BAD);
            }
            Due.is("by of the first of " + n, few.by(n, 0, -1), 0);
            Due.is("by of the last of " + n, few.by(n, TABLES[n] - 1, -1), 0);
        }
    }

    /** "the SIGN (part = -1), the TABLE of its part 0 .. 2" */
    private static void byParts() {
        FewSigns few = nand(1);
        int[] none = {-2, 3, 4, 32, -9, LOWEST, HIGHEST};
        for (int part : none) {
            Due.is("by(2, 7, " + part + ")", few.by(2, 7, part), BAD);
            Due.is("by(2, 10, " + part + "), of x", few.by(2, 10, part), BAD);
        }
        Due.is("by(2, 7, -1)", few.by(2, 7, -1), 0);
        Due.is("by(2, 7, 0)", few.by(2, 7, 0), 10);
        Due.is("by(2, 7, 1)", few.by(2, 7, 1), 12);
        Due.is("by(2, 7, 2)", few.by(2, 7, 2), NONE);
    }

    /** "(NONE: x, y or z has it)": though a sign begins another formula of it. */
    private static void byOfPlaces() {
        FewSigns few = new FewSigns();
        few.sign(1, 2, 1);
        for (int n = 1; n <= 3; n++) {
            for (int table : PLACES[n]) {
                for (int part = -1; part <= 2; part++) {
                    Due.is("by(" + n + ", " + table + ", " + part + ")", few.by(n, table, part), NONE);
                }
            }
        }
    }

    private static void byOfWhatDoesNotCome() {
        FewSigns few = new FewSigns();
        few.sign(2, 8, 1);
        for (int part = -1; part <= 2; part++) {
            Due.is("by(1, 0, " + part + ")", few.by(1, 0, part), NONE);
            Due.is("by(2, 15, " + part + ")", few.by(2, 15, part), NONE);
            Due.is("by(3, 254, " + part + ")", few.by(3, 254, part), NONE);
        }
        Due.is("by(3, 128, -1)", few.by(3, 128, -1), 0);
    }

    /** "NONE: it has none such": signs of 0, 1, 2 and 3 places. */
    private static void byPartsThatASignLacks() {
        int[] tables = {1, 1, 8, 128};
        int[] makes = {15, 5, 8, 8};
        int[][] due = {
            {0, NONE, NONE, NONE},
            {0, 10, NONE, NONE},
            {0, 10, 12, NONE},
            {0, 10, 10, 12},
        };
        for (int places = 0; places <= 3; places++) {
            FewSigns few = new FewSigns();
            few.sign(places, tables[places], 1);
            for (int part = -1; part <= 2; part++) {
                Due.is("sign of " + places + " places: by(2, " + makes[places] + ", " + part + ")",
                        few.by(2, makes[places], part), due[places][part + 1]);
            }
        }
    }

    /** "the least SIGN (by its letter)": of alike ones the first, though u alone is cheap enough else. */
    private static void byTheLeastLetter() {
        FewSigns few = new FewSigns();
        for (int i = 0; i < 5; i++) {
            few.sign(2, 8, 2);
        }
        few.sign(2, 8, 1);
        Due.is("the sixth is cheapest", few.by(2, 8, -1), 5);
        Due.is("its cost", few.least(2, 8), 1);
        few.drop();
        Due.is("the first of five alike", few.by(2, 8, -1), 0);
        few.sign(2, 8, 2);
        Due.is("the first of six alike", few.by(2, 8, -1), 0);
        FewSigns last = new FewSigns();
        for (int i = 0; i < 5; i++) {
            last.sign(0, 0, 1);
        }
        last.sign(0, 1, 9);
        Due.is("the sixth alone has it", last.by(3, 255, -1), 5);
        Due.is("a part of it", last.by(3, 255, 0), NONE);
        Due.is("the first of five that have it", last.by(3, 0, -1), 0);
    }

    /** "the least of the first part, with it the least of the second, then of the third": 0 is least of all. */
    private static void byTheLeastParts() {
        FewSigns few = new FewSigns();
        few.sign(3, 0, 1);
        few.sign(3, 255, 1);
        Due.is("0 of any parts", few.by(2, 0, -1), 0);
        Due.is("1 of any parts", few.by(2, 15, -1), 1);
        for (int part = 0; part <= 2; part++) {
            // The parts cost nothing only if they are x or y, of which x is least.
            Due.is("part " + part + " of 0", few.by(2, 0, part), 10);
            Due.is("part " + part + " of 1", few.by(2, 15, part), 10);
        }
        FewSigns most = new FewSigns();
        most.sign(3, 232, 1);
        most.sign(0, 0, 1);
        most.sign(0, 1, 1);
        Due.is("and: the part 0 comes first", most.by(2, 8, 0), 0);
        Due.is("and: then x", most.by(2, 8, 1), 10);
        Due.is("and: then y", most.by(2, 8, 2), 12);
        Due.is("or: x comes first", most.by(2, 14, 0), 10);
        Due.is("or: then y", most.by(2, 14, 1), 12);
        Due.is("or: 1 is last", most.by(2, 14, 2), 15);
    }

    // ---- promise 9

    private static void farthestWhat() {
        FewSigns few = nand(1);
        for (int n : NO_COUNT) {
            for (int what = 0; what <= 2; what++) {
                Due.is("farthest(" + n + ", " + what + ")", few.farthest(n, what), BAD);
            }
        }
        int[] none = {-1, 3, 4, 32, LOWEST, HIGHEST};
        for (int what : none) {
            for (int n = 1; n <= 3; n++) {
                Due.is("farthest(" + n + ", " + what + ")", few.farthest(n, what), BAD);
            }
        }
    }

    /** "0, if x, y, z are all": then the least of their tables has it. */
    private static void farthestWherePlacesAreAll() {
        FewSigns few = new FewSigns();
        for (int turn = 0; turn < 2; turn++) {
            for (int n = 1; n <= 3; n++) {
                Due.is("farthest(" + n + ", 0), places alone", few.farthest(n, 0), 0);
                Due.is("farthest(" + n + ", 1), places alone", few.farthest(n, 1), PLACES[n][0]);
                Due.is("farthest(" + n + ", 2), places alone", few.farthest(n, 2), 0);
            }
            few.sign(1, 2, 9);
        }
    }

    /** "the least one that is not REACHED (2; NONE)" */
    private static void farthestNotReached() {
        FewSigns few = nand(1);
        for (int n = 1; n <= 3; n++) {
            Due.is("farthest(" + n + ", 2), all come", few.farthest(n, 2), NONE);
        }
        FewSigns nought = new FewSigns();
        nought.sign(2, 8, 1);
        nought.sign(2, 6, 1);
        FewSigns one = new FewSigns();
        one.sign(2, 14, 1);
        one.sign(2, 9, 1);
        for (int n = 1; n <= 3; n++) {
            Due.is("all that keep NOUGHT come", nought.reached(n), TABLES[n] / 2);
            Due.is("farthest(" + n + ", 2), all keep NOUGHT", nought.farthest(n, 2), 1);
            Due.is("all that keep ONE come", one.reached(n), TABLES[n] / 2);
            Due.is("farthest(" + n + ", 2), all keep ONE", one.farthest(n, 2), 0);
        }
        FewSigns ends = new FewSigns();
        ends.sign(0, 0, 1);
        ends.sign(1, 1, 1);
        Due.is("farthest(1, 2), 0 and not: all", ends.farthest(1, 2), NONE);
        Due.is("farthest(2, 2), 0 and not", ends.farthest(2, 2), 1);
    }

    /** "the least TABLE that has it": where the first and the last cost as much, the first. */
    private static void farthestOfSomeAlike() {
        FewSigns few = new FewSigns();
        few.sign(0, 1, 9);
        few.sign(0, 0, 9);
        for (int n = 1; n <= 3; n++) {
            Due.is("farthest(" + n + ", 0)", few.farthest(n, 0), 9);
            Due.is("farthest(" + n + ", 1)", few.farthest(n, 1), 0);
        }
        few.drop();
        for (int n = 1; n <= 3; n++) {
            Due.is("farthest(" + n + ", 0), the last table", few.farthest(n, 0), 9);
            Due.is("farthest(" + n + ", 1), the last table", few.farthest(n, 1), TABLES[n] - 1);
        }
        FewSigns first = new FewSigns();
        first.sign(0, 0, 9);
        for (int n = 1; n <= 3; n++) {
            Due.is("farthest(" + n + ", 0), the first table", first.farthest(n, 0), 9);
            Due.is("farthest(" + n + ", 1), the first table", first.farthest(n, 1), 0);
        }
    }

    // ---- promise 10

    /** "BAD: costs below 0" */
    private static void costingBelowNought() {
        FewSigns few = nand(1);
        int[] none = {-1, -9, -10, LOWEST, LOWEST + 1};
        for (int n = 1; n <= 3; n++) {
            for (int cost : none) {
                Due.is("costing(" + n + ", " + cost + ")", few.costing(n, cost), BAD);
            }
        }
        for (int n : NO_COUNT) {
            Due.is("costing(" + n + ", 0)", few.costing(n, 0), BAD);
        }
    }

    private static void costingNought() {
        FewSigns few = new FewSigns();
        for (int turn = 0; turn < 2; turn++) {
            for (int n = 1; n <= 3; n++) {
                Due.is("costing(" + n + ", 0)", few.costing(n, 0), n);
            }
            few.sign(2, 7, 1);
        }
    }

    /** Tables that do not come have no cost, however great a number is asked. */
    private static void costingFarBeyond() {
        FewSigns few = new FewSigns();
        few.sign(2, 8, 9);
        for (int n = 1; n <= 3; n++) {
            Due.is("costing(" + n + ", MAX)", few.costing(n, HIGHEST), 0);
            for (int bit = 6; bit < 31; bit++) {
                Due.is("costing(" + n + ", 1 << " + bit + ")", few.costing(n, 1 << bit), 0);
                Due.is("costing(" + n + ", (1 << " + bit + ") - 1)", few.costing(n, (1 << bit) - 1), 0);
            }
        }
    }

    private static void costingAllTogether() {
        FewSigns few = nand(9);
        for (int n = 1; n <= 3; n++) {
            int sum = 0;
            for (int cost = 0; cost <= 126; cost += 9) {
                sum += few.costing(n, cost);
            }
            Due.is("all costs together, " + n, sum, TABLES[n]);
        }
        Due.is("costing(3, 126)", few.costing(3, 126) > 0 ? 1 : 0, 1);
        Due.is("costing(3, 127)", few.costing(3, 127), 0);
        Due.is("costing(3, 125)", few.costing(3, 125), 0);
    }
}
