/** Promises 1 to 5: a new object, sign, drop, about, keeps. */
public final class SignsTest {
    public static void main(String[] args) {
        newObject();
        sign();
        signRefused();
        drop();
        about();
        keeps();
        Due.end("SignsTest");
    }

    private static void newObject() {
        FewSigns few = new FewSigns();
        Due.is("count(0) of a new object", few.count(0), 0);
        Due.is("count(1) of a new object", few.count(1), 0);
        Due.is("count(2) of a new object", few.count(2), 0);
        Due.is("about(0, 0) of a new object", few.about(0, 0), FewSigns.BAD);
        for (int i = 0; i < 4; i++) {
            Due.is("formula(i, 0) of a new object", few.formula(i, 0), 170);
            Due.is("formula(i, 3) of a new object", few.formula(i, 3), 1);
        }
        FewSigns other = new FewSigns();
        other.sign(2, 7, 1);
        Due.is("count(0), another object has a sign", few.count(0), 0);
    }

    private static void sign() {
        FewSigns few = new FewSigns();
        Due.is("sign(0, 1, 1)", few.sign(0, 1, 1), 0);
        Due.is("sign(1, 3, 9)", few.sign(1, 3, 9), 1);
        Due.is("sign(2, 15, 5)", few.sign(2, 15, 5), 2);
        Due.is("sign(3, 255, 1)", few.sign(3, 255, 1), 3);
        Due.is("sign(3, 255, 1) once more", few.sign(3, 255, 1), 4);
        Due.is("sign(0, 0, 1)", few.sign(0, 0, 1), 5);
        Due.is("count(0), six signs", few.count(0), 6);
        Due.is("a seventh sign", few.sign(0, 0, 1), FewSigns.FULL);
        Due.is("a seventh sign, BAD first", few.sign(0, 2, 1), FewSigns.BAD);
        Due.is("a seventh sign of no cost, BAD first", few.sign(0, 0, 0), FewSigns.BAD);
        Due.is("count(0), still six signs", few.count(0), 6);
    }

    private static void signRefused() {
        FewSigns few = new FewSigns();
        int[][] wrong = {
            {-1, 0, 1}, {4, 0, 1}, {32, 0, 1}, {Integer.MIN_VALUE, 0, 1}, {Integer.MAX_VALUE, 0, 1},
            {0, 2, 1}, {1, 4, 1}, {2, 16, 1}, {3, 256, 1}, {0, -1, 1}, {1, -1, 1}, {2, -1, 1}, {3, -1, 1},
            {3, Integer.MIN_VALUE, 1}, {3, Integer.MAX_VALUE, 1},
            {2, 7, 0}, {2, 7, 10}, {2, 7, -1}, {2, 7, Integer.MAX_VALUE},
        };
        few.sign(1, 1, 1);
        Due.readAll(few, 2, "p(z)");
        for (int[] w : wrong) {
            Due.is("sign(" + w[0] + ", " + w[1] + ", " + w[2] + ")", few.sign(w[0], w[1], w[2]), FewSigns.BAD);
        }
        Due.is("count(0), signs were refused", few.count(0), 1);
        Due.is("formula(2, 0), signs were refused", few.formula(2, 0), 15);
    }

    private static void drop() {
        FewSigns few = new FewSigns();
        Due.is("drop() of none", few.drop(), FewSigns.BAD);
        few.sign(2, 7, 1);
        few.sign(3, 232, 4);
        Due.is("count(1)", few.count(1), 1);
        Due.is("reached(3)", few.reached(3), FewSigns.STATE);
        Due.is("drop()", few.drop(), 1);
        Due.is("about(1, 0), gone", few.about(1, 0), FewSigns.BAD);
        Due.is("about(0, 1), still there", few.about(0, 1), 7);
        Due.is("reached(3), without its sign of three places", few.reached(3), 256);
        Due.is("sign(1, 2, 3) in its place", few.sign(1, 2, 3), 1);
        Due.is("about(1, 2)", few.about(1, 2), 3);
        Due.is("drop()", few.drop(), 1);
        Due.is("drop()", few.drop(), 0);
        Due.is("drop() once more", few.drop(), FewSigns.BAD);
        Due.is("reached(2) by none", few.reached(2), 2);
        for (int i = 0; i < 6; i++) {
            few.sign(0, 0, 1);
        }
        few.sign(0, 0, 1);
        Due.is("drop() of six", few.drop(), 5);
        Due.is("a sixth sign again", few.sign(3, 128, 9), 5);
    }

    private static void about() {
        FewSigns few = new FewSigns();
        few.sign(3, 232, 4);
        few.sign(0, 1, 9);
        int[][] due = {{3, 232, 4, 15}, {0, 1, 9, 26}};
        for (int i = 0; i < due.length; i++) {
            for (int what = 0; what < 4; what++) {
                Due.is("about(" + i + ", " + what + ")", few.about(i, what), due[i][what]);
            }
        }
        Due.is("about(0, -1)", few.about(0, -1), FewSigns.BAD);
        Due.is("about(0, 4)", few.about(0, 4), FewSigns.BAD);
        Due.is("about(2, 0)", few.about(2, 0), FewSigns.BAD);
        Due.is("about(-1, 0)", few.about(-1, 0), FewSigns.BAD);
        Due.is("about(MIN, MIN)", few.about(Integer.MIN_VALUE, Integer.MIN_VALUE), FewSigns.BAD);
        Due.is("about(MAX, 0)", few.about(Integer.MAX_VALUE, 0), FewSigns.BAD);
    }

    private static void keeps() {
        FewSigns few = new FewSigns();
        int nought = 1;
        int one = 2;
        int turned = 4;
        int rising = 8;
        int sum = 16;
        Due.is("keeps 0 of no places", few.keeps(0, 0), nought + rising + sum);
        Due.is("keeps 1 of no places", few.keeps(0, 1), one + rising + sum);
        Due.is("keeps 0 of one place", few.keeps(1, 0), nought + rising + sum);
        Due.is("keeps not", few.keeps(1, 1), turned + sum);
        Due.is("keeps x", few.keeps(1, 2), nought + one + turned + rising + sum);
        Due.is("keeps 1 of one place", few.keeps(1, 3), one + rising + sum);
        Due.is("keeps nor", few.keeps(2, 1), 0);
        Due.is("keeps nand", few.keeps(2, 7), 0);
        Due.is("keeps and", few.keeps(2, 8), nought + one + rising);
        Due.is("keeps or", few.keeps(2, 14), nought + one + rising);
        Due.is("keeps the sum of two", few.keeps(2, 6), nought + sum);
        Due.is("keeps like", few.keeps(2, 9), one + sum);
        Due.is("keeps x without y", few.keeps(2, 2), nought);
        Due.is("keeps if", few.keeps(2, 11), one);
        Due.is("keeps not y", few.keeps(2, 3), turned + sum);
        Due.is("keeps most of three", few.keeps(3, 232), nought + one + turned + rising);
        Due.is("keeps the sum of three", few.keeps(3, 150), nought + one + turned + sum);
        Due.is("keeps 1 and the sum of three", few.keeps(3, 105), turned + sum);
        Due.is("keeps 1 of three places", few.keeps(3, 255), one + rising + sum);
        Due.is("keeps z", few.keeps(3, 240), 31);
        Due.is("keeps if x then y, else z", few.keeps(3, 0xD8), nought + one);
        int[] limit = {2, 4, 16, 256};
        for (int n = 0; n <= 3; n++) {
            Due.is("keeps beyond " + n + " places", few.keeps(n, limit[n]), FewSigns.BAD);
            Due.is("keeps below 0", few.keeps(n, -1), FewSigns.BAD);
        }
        Due.is("keeps(-1, 0)", few.keeps(-1, 0), FewSigns.BAD);
        Due.is("keeps(4, 0)", few.keeps(4, 0), FewSigns.BAD);
        Due.is("keeps(MIN, 0)", few.keeps(Integer.MIN_VALUE, 0), FewSigns.BAD);
        Due.is("keeps(3, MIN)", few.keeps(3, Integer.MIN_VALUE), FewSigns.BAD);
    }
}
