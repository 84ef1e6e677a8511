/** The boundary cases of promises 11 to 14, and of what the document says of SAYS ALL, LEAST SETS, LACKS and ALONE. */
public final class EdgesOfFamiliesTest {
    private static final int BAD = FewSigns.BAD, NONE = FewSigns.NONE;
    private static final int LOWEST = Integer.MIN_VALUE, HIGHEST = Integer.MAX_VALUE;

    public static void main(String[] args) {
        bitsBeyond();
        emptySet();
        wholeSet();
        eachOfTheFive();
        setsBelow();
        setsBeyond();
        setsOfNone();
        setsOfOne();
        setsOfFour();
        setsByNumber();
        nothingCanBeLeftOut();
        aloneBelow();
        aloneBeyond();
        aloneForAnySigns();
        Due.end("EdgesOfFamiliesTest");
    }

    // ---- promises 11 and 12

    /** "BAD: bits beyond.": for each number of signs. */
    private static void bitsBeyond() {
        FewSigns few = new FewSigns();
        for (int signs = 0; signs <= 6; signs++) {
            int[] none = {1 << signs, (1 << signs) + 1, 1 << 6, 1 << 16, 1 << 30, HIGHEST, -1, LOWEST, LOWEST + 1};
            for (int set : none) {
                Due.is("of " + signs + " signs: says(" + set + ")", few.says(set), BAD);
                Due.is("of " + signs + " signs: lacks(" + set + ")", few.lacks(set), BAD);
            }
            Due.is("of " + signs + " signs: says of all", few.says((1 << signs) - 1), signs > 0 ? 1 : 0);
            Due.is("of " + signs + " signs: lacks of all", few.lacks((1 << signs) - 1), signs > 0 ? 0 : 31);
            few.sign(2, 7, 1);
        }
        for (int signs = 6; signs > 0; signs--) {
            few.drop();
            Due.is("one gone: says(" + (1 << signs - 1) + ")", few.says(1 << signs - 1), BAD);
            Due.is("one gone: lacks(" + (1 << signs - 1) + ")", few.lacks(1 << signs - 1), BAD);
        }
    }

    /** "(No SIGNS keep all five.)" */
    private static void emptySet() {
        FewSigns few = new FewSigns();
        for (int signs = 0; signs <= 6; signs++) {
            Due.is("of " + signs + " signs: says(0)", few.says(0), 0);
            Due.is("of " + signs + " signs: lacks(0)", few.lacks(0), 31);
            few.sign(2, 7, 1);
        }
    }

    private static void wholeSet() {
        FewSigns few = new FewSigns();
        int[] tables = {2, 2, 2, 2, 2, 2};
        for (int table : tables) {
            few.sign(1, table, 9);
        }
        Due.is("six that tell their place lack all", few.lacks(63), 31);
        Due.is("and say not all", few.says(63), 0);
        few.drop();
        few.sign(2, 1, 1);
        Due.is("with nor as the sixth", few.lacks(63), 0);
        Due.is("they say all", few.says(63), 1);
        Due.is("without it", few.lacks(31), 31);
        Due.is("it alone", few.says(32), 1);
    }

    /** "of each of the five some SIGN of it does not keep it": one thing kept by all is too much. */
    private static void eachOfTheFive() {
        // Of each row all tables keep just the one thing in common that bit k tells.
        int[][][] families = {
            {{2, 8}, {2, 6}},
            {{2, 14}, {2, 9}},
            {{3, 232}, {1, 1}},
            {{2, 8}, {2, 14}, {0, 0}, {0, 1}},
            {{2, 6}, {0, 1}, {1, 1}},
        };
        for (int k = 0; k < 5; k++) {
            FewSigns few = new FewSigns();
            for (int[] sign : families[k]) {
                few.sign(sign[0], sign[1], 1);
            }
            int all = (1 << families[k].length) - 1;
            Due.is("all keep " + k, few.lacks(all), 1 << k);
            Due.is("all keep " + k + ": says", few.says(all), 0);
            Due.is("all keep " + k + ": sets(-1)", few.sets(-1), 0);
            few.sign(2, 7, 1);
            Due.is("with nand: lacks", few.lacks(all * 2 + 1), 0);
            Due.is("with nand: says", few.says(all * 2 + 1), 1);
            Due.is("with nand: sets(0)", few.sets(0), all + 1);
            Due.is("with nand: sets(1)", few.sets(1), NONE);
        }
    }

    // ---- promise 13

    /** "BAD: i below -1." */
    private static void setsBelow() {
        FewSigns few = new FewSigns();
        int[] below = {-2, -3, -9, -10, LOWEST, LOWEST + 1};
        for (int turn = 0; turn < 2; turn++) {
            for (int i : below) {
                Due.is("sets(" + i + ")", few.sets(i), BAD);
            }
            few.sign(2, 7, 1);
        }
    }

    /** "the i-th; NONE" */
    private static void setsBeyond() {
        FewSigns few = new FewSigns();
        few.sign(2, 7, 1);
        few.sign(2, 1, 1);
        Due.is("sets(-1)", few.sets(-1), 2);
        Due.is("sets(1)", few.sets(1), 2);
        int[] beyond = {2, 3, 63, 64, 1 << 30, HIGHEST};
        for (int i : beyond) {
            Due.is("sets(" + i + ")", few.sets(i), NONE);
        }
    }

    private static void setsOfNone() {
        FewSigns few = new FewSigns();
        Due.is("of no signs: sets(-1)", few.sets(-1), 0);
        Due.is("of no signs: sets(0)", few.sets(0), NONE);
        few.sign(2, 8, 1);
        Due.is("of and: sets(-1)", few.sets(-1), 0);
        Due.is("of and: sets(0)", few.sets(0), NONE);
    }

    private static void setsOfOne() {
        FewSigns few = new FewSigns();
        few.sign(2, 1, 1);
        Due.is("of nor: sets(-1)", few.sets(-1), 1);
        Due.is("of nor: sets(0)", few.sets(0), 1);
        Due.is("of nor: sets(1)", few.sets(1), NONE);
    }

    /** Four signs, each of which alone breaks one thing: no least set has more. */
    private static void setsOfFour() {
        FewSigns few = new FewSigns();
        few.sign(0, 0, 1);
        few.sign(0, 1, 1);
        few.sign(3, 150, 1);
        few.sign(2, 8, 1);
        Due.is("sets(-1)", few.sets(-1), 1);
        Due.is("sets(0)", few.sets(0), 15);
        Due.is("without 0 all keep ONE", few.lacks(14), 2);
        Due.is("without 1 all keep NOUGHT", few.lacks(13), 1);
        Due.is("without the sum all are RISING", few.lacks(11), 8);
        Due.is("without and all are SUMS", few.lacks(7), 16);
        few.sign(2, 8, 1);
        few.sign(0, 0, 9);
        int[] due = {15, 23, 46, 54};
        Due.is("0 and and twice: sets(-1)", few.sets(-1), 4);
        for (int i = 0; i < due.length; i++) {
            Due.is("0 and and twice: sets(" + i + ")", few.sets(i), due[i]);
        }
        Due.is("0 and and twice: sets(4)", few.sets(4), NONE);
    }

    /** "the i-th (by number)": not by how many signs a set has. */
    private static void setsByNumber() {
        FewSigns few = new FewSigns();
        few.sign(2, 8, 1);
        few.sign(1, 1, 1);
        few.sign(2, 7, 1);
        few.sign(2, 14, 1);
        int[] due = {3, 4, 10};
        Due.is("sets(-1)", few.sets(-1), due.length);
        for (int i = 0; i < due.length; i++) {
            Due.is("sets(" + i + ")", few.sets(i), due[i]);
        }
    }

    /** "of which no SIGN can be left out": any two that say all alone make no least set together. */
    private static void nothingCanBeLeftOut() {
        FewSigns few = new FewSigns();
        for (int i = 0; i < 6; i++) {
            few.sign(2, 7, 1);
        }
        Due.is("sets(-1)", few.sets(-1), 6);
        for (int i = 0; i < 6; i++) {
            Due.is("sets(" + i + ")", few.sets(i), 1 << i);
        }
        Due.is("sets(6)", few.sets(6), NONE);
    }

    // ---- promise 14

    /** "BAD: i below -1." */
    private static void aloneBelow() {
        FewSigns few = new FewSigns();
        int[] below = {-2, -3, -9, -10, LOWEST, LOWEST + 1};
        for (int i : below) {
            Due.is("alone(" + i + ")", few.alone(i), BAD);
        }
    }

    /** "how many (i = -1), the i-th such TABLE; NONE" */
    private static void aloneBeyond() {
        FewSigns few = new FewSigns();
        Due.is("alone(-1)", few.alone(-1), 2);
        Due.is("alone(0)", few.alone(0), 1);
        Due.is("alone(1)", few.alone(1), 7);
        int[] beyond = {2, 3, 15, 16, 1 << 30, HIGHEST};
        for (int i : beyond) {
            Due.is("alone(" + i + ")", few.alone(i), NONE);
        }
    }

    /** "(of the 16; for any SIGNS the same)" */
    private static void aloneForAnySigns() {
        FewSigns few = new FewSigns();
        for (int signs = 0; signs <= 6; signs++) {
            Due.is("with " + signs + " signs: alone(-1)", few.alone(-1), 2);
            Due.is("with " + signs + " signs: alone(0)", few.alone(0), 1);
            Due.is("with " + signs + " signs: alone(1)", few.alone(1), 7);
            Due.is("with " + signs + " signs: alone(2)", few.alone(2), NONE);
            few.sign(signs % 4, 1, 1);
        }
    }
}
