/** Promises 15 to 19: lets, letting, around, sorts, kept. */
public final class RelationsTest {
    private static final int BAD = FewSigns.BAD;

    public static void main(String[] args) {
        noSigns();
        lets();
        letting();
        around();
        sorts();
        kept();
        refused();
        Due.end("RelationsTest");
    }

    private static void noSigns() {
        int[] all = {0, 4, 16, 256};
        for (int r = 1; r <= 3; r++) {
            FewSigns few = new FewSigns();
            FewSigns other = new FewSigns();
            Due.is("kept(" + r + ") by none", few.kept(r), all[r]);
            for (int rows = 0; rows < all[r]; rows++) {
                Due.is("around(" + r + ", " + rows + ") by none", few.around(r, rows), rows);
                Due.is("letting(" + r + ", " + rows + ") of none", other.letting(r, rows), 0);
            }
        }
    }

    private static void lets() {
        FewSigns few = new FewSigns();
        few.sign(2, 8, 1);
        few.sign(1, 1, 1);
        few.sign(0, 1, 1);
        few.sign(3, 232, 1);
        few.sign(0, 0, 1);
        Due.is("and lets the empty one", few.lets(0, 3, 0), 1);
        Due.is("not lets the empty one", few.lets(1, 3, 0), 1);
        Due.is("1 does not let the empty one", few.lets(2, 3, 0), 0);
        Due.is("0 does not let the empty one", few.lets(4, 1, 0), 0);
        Due.is("1 lets what has the row of all 1", few.lets(2, 3, 128), 1);
        Due.is("1 does not let what lacks it", few.lets(2, 3, 127), 0);
        Due.is("0 lets what has the row of all 0", few.lets(4, 2, 1), 1);
        Due.is("0 does not let what lacks it", few.lets(4, 2, 14), 0);
        Due.is("and lets rows 0, 1, 2", few.lets(0, 2, 7), 1);
        Due.is("and does not let rows 1, 2, 3", few.lets(0, 2, 14), 0);
        Due.is("not lets rows 1, 2", few.lets(1, 2, 6), 1);
        Due.is("not does not let rows 0, 1, 2", few.lets(1, 2, 7), 0);
        Due.is("not lets rows 3, 4", few.lets(1, 3, 8 + 16), 1);
        Due.is("most lets all but one row of two values", few.lets(3, 2, 7), 1);
        Due.is("most does not let rows 1, 2, 4", few.lets(3, 3, 2 + 4 + 16), 0);
        Due.is("most lets rows 0, 1, 2, 4", few.lets(3, 3, 1 + 2 + 4 + 16), 1);
        Due.is("most lets two rows", few.lets(3, 3, 2 + 64), 1);
        for (int i = 0; i < 5; i++) {
            Due.is("each lets all rows", few.lets(i, 3, 255), 1);
        }
        // x without y tells places apart: it must heed which row comes first.
        FewSigns ordered = new FewSigns();
        ordered.sign(2, 2, 1);
        ordered.sign(3, 0xD8, 1);
        Due.is("x without y, row 1 alone: tells 0", ordered.lets(0, 1, 2), 0);
        Due.is("x without y, row 0 alone", ordered.lets(0, 1, 1), 1);
        Due.is("x without y, rows 0, 1 of two", ordered.lets(0, 2, 3), 1);
        Due.is("x without y, rows 0, 1, 3 of two: 3 without 1 is 2", ordered.lets(0, 2, 11), 0);
        Due.is("if x then y, else z: rows 0, 1", ordered.lets(1, 2, 3), 1);
        Due.is("if x then y, else z: rows 1, 2", ordered.lets(1, 2, 6), 0);
    }

    private static void letting() {
        FewSigns few = new FewSigns();
        few.sign(2, 8, 1);
        few.sign(2, 14, 1);
        few.sign(1, 1, 1);
        few.sign(0, 0, 1);
        few.sign(3, 150, 1);
        few.sign(3, 232, 1);
        Due.is("who lets the empty one", few.letting(2, 0), 1 + 2 + 4 + 16 + 32);
        Due.is("who lets all", few.letting(3, 255), 63);
        Due.is("who lets rising rows", few.letting(2, 13), 1 + 2 + 8 + 32);
        Due.is("who lets turned rows", few.letting(2, 6), 4 + 16 + 32);
        Due.is("who lets sums that are even", few.letting(3, 0x69), 8 + 16);
        few.drop();
        Due.is("who lets all, one gone", few.letting(3, 255), 31);
    }

    private static void around() {
        FewSigns few = new FewSigns();
        few.sign(2, 8, 1);
        Due.is("around none", few.around(3, 0), 0);
        Due.is("around rows 3, 5, by and", few.around(3, 8 + 32), 8 + 32 + 2);
        Due.is("around rows 3, 5, 6, by and", few.around(3, 8 + 32 + 64), 1 + 2 + 4 + 8 + 16 + 32 + 64);
        few.sign(0, 1, 1);
        Due.is("around none, by and, 1", few.around(3, 0), 128);
        few.sign(1, 1, 1);
        Due.is("around none, by and, 1, not", few.around(3, 0), 129);
        Due.is("around none of one value", few.around(1, 0), 3);
        Due.is("around row 1 of three values", few.around(3, 2), 128 + 64 + 2 + 1);
        FewSigns slow = new FewSigns();
        slow.sign(3, 150, 1);
        Due.is("around rows 1, 2, 4, by the sum of three", slow.around(3, 2 + 4 + 16), 2 + 4 + 16 + 128);
        Due.is("around rows 0, 1, 2, 4", slow.around(3, 1 + 2 + 4 + 16), 255);
        Due.is("around all", slow.around(3, 255), 255);
        // The last sign must come first, and again after the others: one pass over the signs is too few.
        FewSigns chain = new FewSigns();
        chain.sign(1, 1, 1);
        chain.sign(2, 8, 1);
        Due.is("around rows 1, 2, by not, and", chain.around(3, 2 + 4), 1 + 2 + 4 + 8 + 16 + 32 + 64 + 128);
    }

    private static void sorts() {
        FewSigns few = new FewSigns();
        int nought = 1;
        int one = 2;
        int and = 4;
        int or = 8;
        int sum = 16;
        int most = 32;
        for (int r = 1; r <= 3; r++) {
            Due.is("sorts of the empty one", few.sorts(r, 0), and + or + sum + most);
            Due.is("sorts of row 0 alone", few.sorts(r, 1), nought + and + or + sum + most);
            Due.is("sorts of the last row alone", few.sorts(r, 1 << (1 << r) - 1), one + and + or + sum + most);
        }
        Due.is("sorts of all", few.sorts(3, 255), 63);
        Due.is("sorts of rows 1, 2", few.sorts(2, 6), sum + most);
        Due.is("sorts of rows 0, 1, 2", few.sorts(2, 7), nought + and + most);
        Due.is("sorts of rows 1, 2, 3", few.sorts(2, 14), one + or + most);
        Due.is("sorts of rows 1, 2, 4", few.sorts(3, 22), 0);
        Due.is("sorts of rows 0, 3, 5, 6", few.sorts(3, 0x69), nought + sum);
        Due.is("sorts of rows 0, 1, 2, 4", few.sorts(3, 23), nought + and + most);
        few.sign(2, 7, 1);
        Due.is("sorts, whatever the signs", few.sorts(3, 23), nought + and + most);
    }

    private static void kept() {
        FewSigns few = new FewSigns();
        few.sign(2, 7, 1);
        Due.is("kept(1) by nand: none, all", few.kept(1), 2);
        Due.is("kept(2) by nand: none, like, all", few.kept(2), 3);
        few.sign(0, 0, 1);
        Due.is("kept(1), and the empty one is not", few.kept(1), 1);
        Due.is("kept(2), and the empty one is not", few.kept(2), 2);
        few.drop();
        Due.is("kept(1), it is again", few.kept(1), 2);
        // By nand, a relation of three values other than the empty one says which values are alike.
        Due.is("kept(3) by nand", few.kept(3), 1 + 5);
        FewSigns not = new FewSigns();
        not.sign(1, 1, 1);
        Due.is("kept(3) by not: of four pairs of rows any", not.kept(3), 16);
        FewSigns six = new FewSigns();
        for (int i = 0; i < 6; i++) {
            six.sign(3, 204, 1);
        }
        Due.is("kept(3) by six that tell their second place", six.kept(3), 256);
        Due.is("kept(1)", six.kept(1), 4);
    }

    private static void refused() {
        FewSigns few = new FewSigns();
        few.sign(2, 8, 1);
        int[] limit = {2, 4, 16, 256};
        int[] noCount = {0, 4, -1, 35, Integer.MIN_VALUE, Integer.MAX_VALUE};
        for (int r : noCount) {
            Due.is("lets(0, " + r + ", 0)", few.lets(0, r, 0), BAD);
            Due.is("letting(" + r + ", 0)", few.letting(r, 0), BAD);
            Due.is("around(" + r + ", 0)", few.around(r, 0), BAD);
            Due.is("sorts(" + r + ", 0)", few.sorts(r, 0), BAD);
            Due.is("kept(" + r + ")", few.kept(r), BAD);
        }
        for (int r = 1; r <= 3; r++) {
            int[] noRows = {limit[r], -1, Integer.MIN_VALUE, Integer.MAX_VALUE};
            for (int rows : noRows) {
                Due.is("lets(0, " + r + ", " + rows + ")", few.lets(0, r, rows), BAD);
                Due.is("letting(" + r + ", " + rows + ")", few.letting(r, rows), BAD);
                Due.is("around(" + r + ", " + rows + ")", few.around(r, rows), BAD);
                Due.is("sorts(" + r + ", " + rows + ")", few.sorts(r, rows), BAD);
            }
        }
        int[] noSign = {-1, 1, 6, Integer.MIN_VALUE, Integer.MAX_VALUE};
        for (int i : noSign) {
            Due.is("lets(" + i + ", 1, 1)", few.lets(i, 1, 1), BAD);
        }
    }
}
