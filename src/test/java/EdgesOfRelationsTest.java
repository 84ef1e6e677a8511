/** The boundary cases of promises 15 to 19, and of what the document says of RELATIONS, LETS, AROUND and SORTS. */
public final class EdgesOfRelationsTest {
    private static final int BAD = FewSigns.BAD;
    private static final int LOWEST = Integer.MIN_VALUE, HIGHEST = Integer.MAX_VALUE;
    private static final int[] ROWS = {2, 4, 16, 256};
    private static final int[] NO_VALUES = {0, -1, 4, 5, 31, 32, 33, 34, 35, -29, LOWEST, HIGHEST};

    public static void main(String[] args) {
        valuesOfARelation();
        rowsBeyond();
        noSuchSign();
        letsTheEmptyOne();
        letsAllRows();
        letsTheSameRowOftenOver();
        letsByNoPlaces();
        lettingOfNone();
        lettingOfSix();
        aroundNoRows();
        aroundAllRows();
        aroundByNone();
        aroundIsLeast();
        sortsOfTheEmptyOne();
        sortsOfAllRows();
        sortsOfOneRow();
        sortsForAnySigns();
        keptByNone();
        keptTheEmptyOneToo();
        keptByEachSign();
        keptByThoseThatSayAll();
        Due.end("EdgesOfRelationsTest");
    }

    // ---- what the five calls refuse

    /** "(r 1 .. 3)" */
    private static void valuesOfARelation() {
        FewSigns few = new FewSigns();
        few.sign(2, 8, 1);
        for (int r : NO_VALUES) {
            for (int rows = 0; rows < 2; rows++) {
                Due.is("lets(0, " + r + ", " + rows + ")", few.lets(0, r, rows), BAD);
                Due.is("letting(" + r + ", " + rows + ")", few.letting(r, rows), BAD);
                Due.is("around(" + r + ", " + rows + ")", few.around(r, rows), BAD);
                Due.is("sorts(" + r + ", " + rows + ")", few.sorts(r, rows), BAD);
            }
            Due.is("kept(" + r + ")", few.kept(r), BAD);
        }
    }

    private static void rowsBeyond() {
        FewSigns few = new FewSigns();
        few.sign(2, 8, 1);
        for (int r = 1; r <= 3; r++) {
            int[] none = {-1, ROWS[r], ROWS[r] + 1, 65536, LOWEST, HIGHEST};
            for (int rows : none) {
                Due.is("lets(0, " + r + ", " + rows + ")", few.lets(0, r, rows), BAD);
                Due.is("letting(" + r + ", " + rows + ")", few.letting(r, rows), BAD);
                Due.is("around(" + r + ", " + rows + ")", few.around(r, rows), BAD);
                Due.is("sorts(" + r + ", " + rows + ")", few.sorts(r, rows), BAD);
            }
        }
    }

    private static void noSuchSign() {
        FewSigns few = new FewSigns();
        for (int signs = 0; signs <= 6; signs++) {
            int[] none = {-1, signs, 6, 7, 32, LOWEST, HIGHEST};
            for (int i : none) {
                Due.is("of " + signs + " signs: lets(" + i + ", 1, 3)", few.lets(i, 1, 3), BAD);
            }
            few.sign(1, 2, 1);
            Due.is("of " + (signs + 1) + " signs: the last", few.lets(Math.min(signs, 5), 1, 3), 1);
        }
        few.drop();
        Due.is("the sixth is gone", few.lets(5, 1, 3), BAD);
    }

    // ---- promise 15

    /** Of no rows none can be taken: a sign with places lets the empty relation, one without does not. */
    private static void letsTheEmptyOne() {
        for (int places = 0; places <= 3; places++) {
            FewSigns few = new FewSigns();
            few.sign(places, 0, 1);
            few.sign(places, ROWS[places] - 1, 1);
            for (int r = 1; r <= 3; r++) {
                Due.is("0 of " + places + " places: lets(0, " + r + ", 0)", few.lets(0, r, 0), places > 0 ? 1 : 0);
                Due.is("1 of " + places + " places: lets(1, " + r + ", 0)", few.lets(1, r, 0), places > 0 ? 1 : 0);
            }
        }
    }

    private static void letsAllRows() {
        for (int places = 0; places <= 3; places++) {
            FewSigns few = new FewSigns();
            few.sign(places, 1, 1);
            for (int r = 1; r <= 3; r++) {
                Due.is("lets of all rows, " + places + " places", few.lets(0, r, ROWS[r] - 1), 1);
            }
        }
    }

    /** "(some may be the same)": one row, for a sign of two or three places. */
    private static void letsTheSameRowOftenOver() {
        FewSigns few = new FewSigns();
        few.sign(2, 6, 1);
        few.sign(2, 8, 1);
        few.sign(3, 150, 1);
        few.sign(3, 105, 1);
        Due.is("sum of row 1 twice is row 0", few.lets(0, 2, 2), 0);
        Due.is("sum of row 0 twice is row 0", few.lets(0, 2, 1), 1);
        Due.is("and of row 1 twice is row 1", few.lets(1, 2, 2), 1);
        for (int row = 0; row < 8; row++) {
            Due.is("sum of row " + row + " three times is that row", few.lets(2, 3, 1 << row), 1);
            Due.is("its other is not", few.lets(3, 3, 1 << row), 0);
        }
        Due.is("sum of three, of two rows", few.lets(2, 3, 2 + 4), 1);
        Due.is("sum of two, of rows 0, 1, 2: 3 lacks", few.lets(0, 2, 7), 0);
    }

    /** "(of a SIGN of no places: the row of all that value)" */
    private static void letsByNoPlaces() {
        for (int r = 1; r <= 3; r++) {
            int last = (1 << r) - 1;
            for (int rows = 0; rows < ROWS[r]; rows++) {
                FewSigns few = new FewSigns();
                few.sign(0, 0, 1);
                few.sign(0, 1, 1);
                Due.is("0: lets(0, " + r + ", " + rows + ")", few.lets(0, r, rows), rows & 1);
                Due.is("1: lets(1, " + r + ", " + rows + ")", few.lets(1, r, rows), rows >> last & 1);
            }
        }
    }

    // ---- promise 16

    private static void lettingOfNone() {
        FewSigns few = new FewSigns();
        for (int r = 1; r <= 3; r++) {
            Due.is("letting(" + r + ", 0) of no signs", few.letting(r, 0), 0);
            Due.is("letting of all rows, of no signs", few.letting(r, ROWS[r] - 1), 0);
        }
    }

    private static void lettingOfSix() {
        FewSigns few = new FewSigns();
        for (int i = 0; i < 6; i++) {
            few.sign(i % 2 == 0 ? 0 : 2, 0, 1);
        }
        for (int r = 1; r <= 3; r++) {
            Due.is("letting(" + r + ", 0): those with places", few.letting(r, 0), 2 + 8 + 32);
            Due.is("letting of all rows: all six", few.letting(r, ROWS[r] - 1), 63);
            Due.is("letting of all but row 0: none", few.letting(r, ROWS[r] - 2), 0);
            Due.is("letting of row 0 alone: all six", few.letting(r, 1), 63);
        }
        few.drop();
        Due.is("the sixth is gone", few.letting(1, 3), 31);
    }

    // ---- promise 17

    private static void aroundNoRows() {
        FewSigns few = new FewSigns();
        few.sign(2, 7, 1);
        for (int r = 1; r <= 3; r++) {
            Due.is("around(" + r + ", 0) by nand: empty", few.around(r, 0), 0);
        }
        few.sign(0, 1, 1);
        int[] ends = {0, 3, 9, 129};
        for (int r = 1; r <= 3; r++) {
            Due.is("around(" + r + ", 0) by nand, 1: all 0 and all 1", few.around(r, 0), ends[r]);
        }
        FewSigns nought = new FewSigns();
        nought.sign(0, 0, 1);
        for (int r = 1; r <= 3; r++) {
            Due.is("around(" + r + ", 0) by 0: row 0", nought.around(r, 0), 1);
        }
    }

    private static void aroundAllRows() {
        FewSigns few = new FewSigns();
        for (int signs = 0; signs <= 6; signs++) {
            for (int r = 1; r <= 3; r++) {
                Due.is("around all rows of " + r + ", " + signs + " signs", few.around(r, ROWS[r] - 1), ROWS[r] - 1);
            }
            few.sign(signs % 4, 1, 1);
        }
    }

    private static void aroundByNone() {
        FewSigns few = new FewSigns();
        for (int rows = 0; rows < 256; rows++) {
            Due.is("around(3, " + rows + ") by no signs", few.around(3, rows), rows);
        }
    }

    /** "the least RELATION with some rows that all SIGNS let" */
    private static void aroundIsLeast() {
        for (int rows = 0; rows < 256; rows++) {
            FewSigns few = new FewSigns();
            few.sign(2, 8, 1);
            few.sign(3, 150, 1);
            int around = few.around(3, rows);
            int least = 255;
            for (int other = 0; other < 256; other++) {
                if ((rows & ~other) == 0 && few.letting(3, other) == 3) {
                    least &= other;
                }
            }
            Due.is("around(3, " + rows + ")", around, least);
            Due.is("around of it is it", few.around(3, around), around);
        }
        FewSigns slow = new FewSigns();
        slow.sign(2, 8, 1);
        slow.sign(1, 1, 1);
        // From rows 1, 2, 4 it takes joins of joins to come to all eight.
        Due.is("around rows 1, 2, 4, by and, not", slow.around(3, 2 + 4 + 16), 255);
        Due.is("around row 1, by and, not", slow.around(3, 2), 1 + 2 + 64 + 128);
    }

    // ---- promise 18

    /** "(An empty one: 4 to 32.)" */
    private static void sortsOfTheEmptyOne() {
        FewSigns few = new FewSigns();
        for (int r = 1; r <= 3; r++) {
            Due.is("sorts(" + r + ", 0)", few.sorts(r, 0), 4 + 8 + 16 + 32);
        }
    }

    private static void sortsOfAllRows() {
        FewSigns few = new FewSigns();
        for (int r = 1; r <= 3; r++) {
            Due.is("sorts of all rows of " + r, few.sorts(r, ROWS[r] - 1), 63);
        }
        Due.is("sorts of all rows but row 0", few.sorts(3, 254), 2 + 8);
        Due.is("sorts of all rows but the last", few.sorts(3, 127), 1 + 4);
    }

    private static void sortsOfOneRow() {
        FewSigns few = new FewSigns();
        for (int r = 1; r <= 3; r++) {
            for (int row = 0; row < 1 << r; row++) {
                int ends = (row == 0 ? 1 : 0) + (row == (1 << r) - 1 ? 2 : 0);
                Due.is("sorts of row " + row + " of " + r, few.sorts(r, 1 << row), 60 + ends);
            }
        }
    }

    private static void sortsForAnySigns() {
        FewSigns few = new FewSigns();
        for (int signs = 0; signs <= 6; signs++) {
            Due.is("sorts(2, 6) with " + signs + " signs", few.sorts(2, 6), 16 + 32);
            Due.is("sorts(3, 0) with " + signs + " signs", few.sorts(3, 0), 60);
            few.sign(signs % 4, 1, 1);
        }
    }

    // ---- promise 19

    private static void keptByNone() {
        FewSigns few = new FewSigns();
        int[] all = {0, 4, 16, 256};
        for (int turn = 0; turn < 2; turn++) {
            for (int r = 1; r <= 3; r++) {
                Due.is("kept(" + r + ") by no signs", few.kept(r), all[r]);
            }
            few.sign(0, 0, 1);
            few.drop();
        }
    }

    /** "(the empty one too, if they do)" */
    private static void keptTheEmptyOneToo() {
        FewSigns few = new FewSigns();
        few.sign(1, 2, 1);
        Due.is("kept(1), a sign that tells its place", few.kept(1), 4);
        few.sign(1, 0, 1);
        Due.is("kept(1), 0 of one place: empty, 0, both", few.kept(1), 3);
        few.sign(0, 0, 1);
        Due.is("kept(1), 0 of no places: 0, both", few.kept(1), 2);
        few.sign(0, 1, 1);
        Due.is("kept(1), 1 too: both", few.kept(1), 1);
        Due.is("kept(2): those with rows 0 and 3", few.kept(2), 4);
        Due.is("kept(3): those with rows 0 and 7", few.kept(3), 64);
        few.drop();
        few.drop();
        Due.is("kept(1), gone again", few.kept(1), 3);
    }

    /** "all SIGNS let": one that does not is enough, be it the first or the last. */
    private static void keptByEachSign() {
        for (int at = 0; at < 6; at++) {
            FewSigns few = new FewSigns();
            for (int i = 0; i < 6; i++) {
                few.sign(1, i == at ? 1 : 2, 1);
            }
            Due.is("kept(1), sign " + at + " is not", few.kept(1), 2);
            Due.is("kept(2), sign " + at + " is not", few.kept(2), 4);
            Due.is("kept(3), sign " + at + " is not", few.kept(3), 16);
        }
    }

    /** The fewest: all rows, and those that say which values are alike. */
    private static void keptByThoseThatSayAll() {
        FewSigns few = new FewSigns();
        for (int i = 0; i < 5; i++) {
            few.sign(2, 7, 1);
        }
        few.sign(0, 1, 1);
        int[] due = {0, 1, 2, 5};
        for (int r = 1; r <= 3; r++) {
            Due.is("kept(" + r + ")", few.kept(r), due[r]);
            Due.is("kept(" + r + ") once more", few.kept(r), due[r]);
        }
        few.drop();
        for (int r = 1; r <= 3; r++) {
            Due.is("kept(" + r + ") with the empty one", few.kept(r), due[r] + 1);
        }
    }
}
