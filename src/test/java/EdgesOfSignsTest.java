/** The boundary cases of promises 1 to 5, and of what the document says ahead of them on signs and KEEPS. */
public final class EdgesOfSignsTest {
    private static final int BAD = FewSigns.BAD, STATE = FewSigns.STATE, FULL = FewSigns.FULL, NONE = FewSigns.NONE;
    private static final int LOWEST = Integer.MIN_VALUE, HIGHEST = Integer.MAX_VALUE;
    private static final int[] TABLES = {2, 4, 16, 256};

    public static void main(String[] args) {
        noSigns();
        formulasAreXAtFirst();
        objectsAreApart();
        lastCalls();
        placesOfASign();
        tableBeyondItsPlaces();
        costOfASign();
        sixSignsAndNoMore();
        badAheadOfFull();
        refusedSignChangesNothing();
        dropOfNone();
        dropToNone();
        dropMakesRoom();
        dropIsOfTheLast();
        aboutNoSuchSign();
        aboutNoSuchThing();
        aboutGreatestAndLeast();
        keepsPlaces();
        keepsTables();
        keepsOfNoPlaces();
        keepsOfManyTables();
        keepsRisingOverTwoPlaces();
        keepsSumOfNoneAndAll();
        Due.end("EdgesOfSignsTest");
    }

    // ---- promise 1

    /** "No SIGNS." */
    private static void noSigns() {
        FewSigns few = new FewSigns();
        for (int what = 0; what < 3; what++) {
            Due.is("new: count(" + what + ")", few.count(what), 0);
        }
        for (int what = 0; what < 4; what++) {
            Due.is("new: about(0, " + what + ")", few.about(0, what), BAD);
        }
        Due.is("new: says(1)", few.says(1), BAD);
        Due.is("new: letting(1, 3)", few.letting(1, 3), 0);
        Due.is("new: lets(0, 1, 3)", few.lets(0, 1, 3), BAD);
        Due.is("new: reached(3)", few.reached(3), 3);
        Due.is("new: clear()", few.clear(), 0);
        Due.is("new: drop()", few.drop(), BAD);
    }

    /** "(x each at first ..)" */
    private static void formulasAreXAtFirst() {
        FewSigns few = new FewSigns();
        int[] ofX = {170, 0, 0, 1, 1, 170, 4, 31};
        for (int i = 0; i < 4; i++) {
            for (int what = 0; what < ofX.length; what++) {
                Due.is("new: formula(" + i + ", " + what + ")", few.formula(i, what), ofX[what]);
            }
            Due.is("new: leastened(" + i + ")", few.leastened(i), 0);
        }
    }

    private static void objectsAreApart() {
        FewSigns one = new FewSigns();
        FewSigns other = new FewSigns();
        one.sign(3, 232, 1);
        one.type('y', 1);
        Due.is("another object's signs", other.count(0), 0);
        Due.is("another object's text", other.count(2), 0);
        Due.is("another object is not in that state", other.reached(3), 3);
        one.read(0);
        Due.is("another object's formulas", other.formula(0, 0), 170);
        Due.is("its own formula", one.formula(0, 0), 204);
    }

    /** "An object is used for at most 512 calls": the last of them answers as the first. */
    private static void lastCalls() {
        FewSigns few = new FewSigns();
        for (int call = 0; call < 510; call += 3) {
            Due.is("call " + call + ": sign", few.sign(2, call % 2 == 0 ? 7 : 1, 1 + call % 9), 0);
            Due.is("call " + call + ": reached", few.reached(3), 256);
            Due.is("call " + call + ": drop", few.drop(), 0);
        }
        Due.is("call 511: sign", few.sign(2, 7, 9), 0);
        Due.is("call 512: farthest", few.farthest(3, 0), 14 * 9);
        FewSigns typing = new FewSigns();
        for (int call = 0; call < 512; call++) {
            Due.is("call " + call + ": type", typing.type('x', 1), call < 80 ? call + 1 : FULL);
        }
    }

    // ---- promise 2

    /** "SIGNS .. have 0 .. 3 places each": beside them, and where a shift by so many would wrap around. */
    private static void placesOfASign() {
        FewSigns few = new FewSigns();
        int[] none = {-1, 4, 5, 31, 32, 33, 34, 35, 64, -29, -32, -64, LOWEST, LOWEST + 1, HIGHEST};
        for (int places : none) {
            Due.is("sign of " + places + " places", few.sign(places, 0, 1), BAD);
            Due.is("sign of " + places + " places, table 1", few.sign(places, 1, 1), BAD);
        }
        for (int places = 0; places <= 3; places++) {
            Due.is("sign of " + places + " places", few.sign(places, 0, 1), places);
        }
        Due.is("signs that came", few.count(0), 4);
    }

    /** "BAD: a TABLE beyond its places": for each number of places the last table, and beside the first and last. */
    private static void tableBeyondItsPlaces() {
        for (int places = 0; places <= 3; places++) {
            FewSigns few = new FewSigns();
            int[] none = {-1, TABLES[places], TABLES[places] + 1, 65536, LOWEST, HIGHEST};
            for (int table : none) {
                Due.is("sign(" + places + ", " + table + ", 1)", few.sign(places, table, 1), BAD);
            }
            Due.is("signs refused, of " + places + " places", few.count(0), 0);
            Due.is("first table of " + places + " places", few.sign(places, 0, 1), 0);
            Due.is("last table of " + places + " places", few.sign(places, TABLES[places] - 1, 1), 1);
            Due.is("last table is held", few.about(1, 1), TABLES[places] - 1);
        }
    }

    /** "a COST 1 .. 9" */
    private static void costOfASign() {
        FewSigns few = new FewSigns();
        int[] none = {0, 10, -1, 11, -9, 256 + 1, LOWEST, LOWEST + 1, HIGHEST};
        for (int cost : none) {
            Due.is("sign of cost " + cost, few.sign(2, 7, cost), BAD);
        }
        Due.is("sign of cost 1", few.sign(2, 7, 1), 0);
        Due.is("sign of cost 9", few.sign(2, 7, 9), 1);
        Due.is("cost 1 is held", few.about(0, 2), 1);
        Due.is("cost 9 is held", few.about(1, 2), 9);
    }

    private static FewSigns sixSigns() {
        FewSigns few = new FewSigns();
        for (int i = 0; i < 6; i++) {
            few.sign(1, 1, 1 + i);
        }
        return few;
    }

    /** "SIGNS p, q, r, s, t, u (0 .. 5 ..)"; "FULL": a seventh, of any places. */
    private static void sixSignsAndNoMore() {
        FewSigns few = new FewSigns();
        for (int i = 0; i < 6; i++) {
            Due.is("sign " + i, few.sign(1, 1, 1 + i), i);
        }
        for (int places = 0; places <= 3; places++) {
            Due.is("a seventh sign of " + places + " places", few.sign(places, 0, 1), FULL);
        }
        Due.is("six signs", few.count(0), 6);
        Due.is("the sixth is as told", few.about(5, 2), 6);
        Due.is("there is no seventh", few.about(6, 0), BAD);
        Due.is("no sign of three places came", few.count(1), 0);
    }

    /** "the first of these: BAD .., STATE .., FULL" */
    private static void badAheadOfFull() {
        FewSigns few = sixSigns();
        Due.is("full, places too few", few.sign(-1, 0, 1), BAD);
        Due.is("full, places too many", few.sign(4, 0, 1), BAD);
        Due.is("full, table beyond", few.sign(2, 16, 1), BAD);
        Due.is("full, table below", few.sign(2, -1, 1), BAD);
        Due.is("full, cost too small", few.sign(2, 7, 0), BAD);
        Due.is("full, cost too great", few.sign(2, 7, 10), BAD);
        Due.is("full", few.sign(2, 7, 9), FULL);
    }

    /** "Refused, and nothing changes": the formulas do not become x again. */
    private static void refusedSignChangesNothing() {
        FewSigns few = sixSigns();
        Due.readAll(few, 3, "u(z)");
        few.type('y', 1);
        Due.is("full", few.sign(0, 0, 1), FULL);
        Due.is("bad", few.sign(0, 2, 1), BAD);
        Due.is("the formula is as it was", few.formula(3, 0), 15);
        Due.is("the text is as it was", few.count(2), 1);
        Due.is("the last sign is as it was", few.about(5, 2), 6);
        Due.is("least is as it was", few.least(1, 1), 1);
    }

    // ---- promise 3

    /** "BAD: there is none." */
    private static void dropOfNone() {
        FewSigns few = new FewSigns();
        few.type('y', 1);
        few.read(1);
        few.type('z', 1);
        Due.is("drop() of none", few.drop(), BAD);
        Due.is("drop() of none again", few.drop(), BAD);
        Due.is("no signs still", few.count(0), 0);
        Due.is("the formula is as it was", few.formula(1, 0), 204);
        Due.is("the text is as it was", few.count(2), 1);
        Due.is("a first sign after that", few.sign(0, 0, 1), 0);
    }

    private static void dropToNone() {
        FewSigns few = sixSigns();
        for (int left = 5; left >= 0; left--) {
            Due.is("drop()", few.drop(), left);
            Due.is("count(0)", few.count(0), left);
        }
        Due.is("drop() of none", few.drop(), BAD);
        Due.is("reached(1) by none", few.reached(1), 1);
        Due.is("lacks(0) of none", few.lacks(0), 31);
        Due.is("kept(1) by none", few.kept(1), 4);
    }

    private static void dropMakesRoom() {
        FewSigns few = sixSigns();
        Due.is("full", few.sign(2, 7, 1), FULL);
        Due.is("drop()", few.drop(), 5);
        Due.is("room again", few.sign(2, 7, 9), 5);
        Due.is("the new one's places", few.about(5, 0), 2);
        Due.is("the new one's table", few.about(5, 1), 7);
        Due.is("the new one's cost", few.about(5, 2), 9);
        Due.is("the new one keeps", few.about(5, 3), 0);
        Due.is("full again", few.sign(2, 7, 1), FULL);
    }

    private static void dropIsOfTheLast() {
        FewSigns few = new FewSigns();
        few.sign(0, 1, 5);
        few.sign(3, 232, 1);
        Due.is("three places: reached(3)", few.reached(3), STATE);
        Due.is("drop()", few.drop(), 1);
        Due.is("the first is left", few.about(0, 2), 5);
        Due.is("signs of three places", few.count(1), 0);
        Due.is("reached(3)", few.reached(3), 4);
    }

    // ---- promise 4

    private static void aboutNoSuchSign() {
        FewSigns few = new FewSigns();
        few.sign(2, 7, 1);
        few.sign(2, 8, 1);
        few.drop();
        int[] none = {-1, 1, 2, 5, 6, 7, 32, LOWEST, HIGHEST};
        for (int i : none) {
            for (int what = 0; what < 4; what++) {
                Due.is("about(" + i + ", " + what + ")", few.about(i, what), BAD);
            }
        }
    }

    private static void aboutNoSuchThing() {
        FewSigns few = sixSigns();
        int[] none = {-1, 4, 5, 32, LOWEST, HIGHEST};
        for (int what : none) {
            Due.is("about(0, " + what + ")", few.about(0, what), BAD);
            Due.is("about(5, " + what + ")", few.about(5, what), BAD);
            Due.is("about(6, " + what + ")", few.about(6, what), BAD);
        }
    }

    private static void aboutGreatestAndLeast() {
        FewSigns few = new FewSigns();
        few.sign(0, 0, 1);
        few.sign(3, 255, 9);
        int[][] due = {{0, 0, 1, 1 + 8 + 16}, {3, 255, 9, 2 + 8 + 16}};
        for (int i = 0; i < 2; i++) {
            for (int what = 0; what < 4; what++) {
                Due.is("about(" + i + ", " + what + ")", few.about(i, what), due[i][what]);
            }
        }
    }

    // ---- promise 5

    /** "a TABLE of n places (0 .. 3)" */
    private static void keepsPlaces() {
        FewSigns few = new FewSigns();
        int[] none = {-1, 4, 5, 31, 32, 33, 34, 35, -29, -32, LOWEST, HIGHEST};
        for (int n : none) {
            Due.is("keeps(" + n + ", 0)", few.keeps(n, 0), BAD);
            Due.is("keeps(" + n + ", 1)", few.keeps(n, 1), BAD);
        }
    }

    private static void keepsTables() {
        FewSigns few = new FewSigns();
        for (int n = 0; n <= 3; n++) {
            int[] none = {-1, TABLES[n], TABLES[n] + 1, LOWEST, HIGHEST};
            for (int table : none) {
                Due.is("keeps(" + n + ", " + table + ")", few.keeps(n, table), BAD);
            }
            Due.is("keeps of the first of " + n, few.keeps(n, 0), 1 + 8 + 16);
            Due.is("keeps of the last of " + n, few.keeps(n, TABLES[n] - 1), 2 + 8 + 16);
        }
    }

    /** The one row of no values is its own turned row, so no table of no places is TURNED. */
    private static void keepsOfNoPlaces() {
        FewSigns few = new FewSigns();
        Due.is("keeps(0, 0)", few.keeps(0, 0), 25);
        Due.is("keeps(0, 1)", few.keeps(0, 1), 26);
        few.sign(0, 0, 1);
        few.sign(0, 1, 1);
        Due.is("about(0, 3)", few.about(0, 3), 25);
        Due.is("about(1, 3)", few.about(1, 3), 26);
        Due.is("0 and 1 lack", few.lacks(3), 24);
    }

    /** How many of all tables keep each is known by counting: half, half, free halves, 3 6 20 rising, all sums. */
    private static void keepsOfManyTables() {
        int[][] due = {{1, 1, 0, 2, 2}, {2, 2, 2, 3, 4}, {8, 8, 4, 6, 8}, {128, 128, 16, 20, 16}};
        for (int n = 0; n <= 3; n++) {
            FewSigns few = new FewSigns();
            int[] found = new int[5];
            for (int table = 0; table < TABLES[n]; table++) {
                int bits = few.keeps(n, table);
                Due.holds("keeps is five bits", bits >= 0 && bits < 32);
                for (int k = 0; k < 5; k++) {
                    found[k] += bits >> k & 1;
                }
            }
            for (int k = 0; k < 5; k++) {
                Due.is("tables of " + n + " places that keep " + k, found[k], due[n][k]);
            }
        }
    }

    /** "with some 0 become 1 it never falls": a fall at one place alone is enough. */
    private static void keepsRisingOverTwoPlaces() {
        FewSigns few = new FewSigns();
        int rising = 8;
        Due.is("1 of all but the last row", few.keeps(3, 127) & rising, 0);
        Due.is("1 of all but the first row", few.keeps(3, 254) & rising, rising);
        Due.is("1 of the last row alone", few.keeps(3, 128) & rising, rising);
        Due.is("1 of the first row alone", few.keeps(3, 1) & rising, 0);
        Due.is("falls at z alone", few.keeps(3, 10 | 8 << 4) & rising, 0);
    }

    /** "it is 0 or 1, and some of its places, added": none of them, and all of them. */
    private static void keepsSumOfNoneAndAll() {
        FewSigns few = new FewSigns();
        int sum = 16;
        Due.is("0 and no place", few.keeps(3, 0) & sum, sum);
        Due.is("1 and no place", few.keeps(3, 255) & sum, sum);
        Due.is("0 and all places", few.keeps(3, 150) & sum, sum);
        Due.is("1 and all places", few.keeps(3, 105) & sum, sum);
        Due.is("all places, but for the last row", few.keeps(3, 150 ^ 128) & sum, 0);
        Due.is("0, but for the last row", few.keeps(3, 128) & sum, 0);
        Due.is("NONE is no answer of keeps", few.keeps(2, 7) == NONE ? 1 : 0, 0);
    }
}
