/** Promises 11 to 14: says, lacks, sets, alone. */
public final class FamiliesTest {
    private static final int BAD = FewSigns.BAD, NONE = FewSigns.NONE;

    public static void main(String[] args) {
        noSigns();
        someSigns();
        sixSigns();
        alone();
        Due.end("FamiliesTest");
    }

    private static void noSigns() {
        FewSigns few = new FewSigns();
        Due.is("says(0)", few.says(0), 0);
        Due.is("lacks(0)", few.lacks(0), 31);
        Due.is("says(1)", few.says(1), BAD);
        Due.is("lacks(1)", few.lacks(1), BAD);
        Due.is("says(-1)", few.says(-1), BAD);
        Due.is("lacks(MIN)", few.lacks(Integer.MIN_VALUE), BAD);
        Due.is("sets(-1)", few.sets(-1), 0);
        Due.is("sets(0)", few.sets(0), NONE);
        Due.is("sets(MAX)", few.sets(Integer.MAX_VALUE), NONE);
        Due.is("sets(-2)", few.sets(-2), BAD);
        Due.is("sets(MIN)", few.sets(Integer.MIN_VALUE), BAD);
    }

    private static void someSigns() {
        FewSigns few = new FewSigns();
        few.sign(2, 8, 1);
        few.sign(2, 6, 1);
        few.sign(0, 1, 1);
        few.sign(2, 7, 1);
        Due.is("and lacks", few.lacks(1), 1 + 2 + 8);
        Due.is("and, sum lack", few.lacks(3), 1);
        Due.is("and, sum, 1 lack", few.lacks(7), 0);
        Due.is("and, 1 lack", few.lacks(5), 2 + 8);
        Due.is("sum, 1 lack", few.lacks(6), 16);
        Due.is("no signs lack", few.lacks(0), 31);
        Due.is("and, sum, 1 say all", few.says(7), 1);
        Due.is("and, sum do not", few.says(3), 0);
        Due.is("nand alone says all", few.says(8), 1);
        Due.is("all say all", few.says(15), 1);
        Due.is("says of none", few.says(0), 0);
        Due.is("says(16)", few.says(16), BAD);
        Due.is("lacks(16)", few.lacks(16), BAD);
        Due.is("says(MAX)", few.says(Integer.MAX_VALUE), BAD);
        Due.is("sets(-1)", few.sets(-1), 2);
        Due.is("sets(0)", few.sets(0), 7);
        Due.is("sets(1)", few.sets(1), 8);
        Due.is("sets(2)", few.sets(2), NONE);
        few.drop();
        Due.is("sets(-1), nand gone", few.sets(-1), 1);
        Due.is("says(8), nand gone", few.says(8), BAD);
        few.drop();
        Due.is("sets(-1), 1 gone too", few.sets(-1), 0);
    }

    private static void sixSigns() {
        FewSigns few = new FewSigns();
        for (int i = 0; i < 6; i++) {
            few.sign(2, i % 2 == 0 ? 7 : 1, 9);
        }
        Due.is("sets(-1), six that say all", few.sets(-1), 6);
        for (int i = 0; i < 6; i++) {
            Due.is("sets(" + i + ")", few.sets(i), 1 << i);
        }
        Due.is("sets(6)", few.sets(6), NONE);
        Due.is("says(63)", few.says(63), 1);
        Due.is("says(64)", few.says(64), BAD);
        Due.is("lacks(64)", few.lacks(64), BAD);
        FewSigns mixed = new FewSigns();
        mixed.sign(3, 232, 1);
        mixed.sign(0, 0, 1);
        mixed.sign(0, 1, 1);
        mixed.sign(3, 150, 1);
        mixed.sign(1, 1, 1);
        mixed.sign(2, 14, 1);
        // most and or bend what the sum keeps; not alone turns 0 and 1; then 0, 1 or or breaks turning.
        int[] due = {15, 19, 21, 46, 48};
        Due.is("sets(-1), six mixed", mixed.sets(-1), due.length);
        for (int i = 0; i < due.length; i++) {
            Due.is("mixed sets(" + i + ")", mixed.sets(i), due[i]);
        }
    }

    private static void alone() {
        FewSigns few = new FewSigns();
        for (int signs = 0; signs < 2; signs++) {
            Due.is("alone(-1)", few.alone(-1), 2);
            Due.is("alone(0)", few.alone(0), 1);
            Due.is("alone(1)", few.alone(1), 7);
            Due.is("alone(2)", few.alone(2), NONE);
            Due.is("alone(MAX)", few.alone(Integer.MAX_VALUE), NONE);
            Due.is("alone(-2)", few.alone(-2), BAD);
            Due.is("alone(MIN)", few.alone(Integer.MIN_VALUE), BAD);
            few.sign(2, 7, 1);
        }
    }
}
