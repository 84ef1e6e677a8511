/** Promises 6 to 10: reached, least, by, farthest, costing. */
public final class SayingTest {
    private static final int BAD = FewSigns.BAD, STATE = FewSigns.STATE, NONE = FewSigns.NONE;

    public static void main(String[] args) {
        noSigns();
        nor();
        dearAndCheap();
        leastLetterAndParts();
        nought();
        threePlaces();
        refused();
        afterChanges();
        Due.end("SayingTest");
    }

    private static void noSigns() {
        FewSigns few = new FewSigns();
        int[] firstPlace = {0, 2, 10, 170};
        for (int n = 1; n <= 3; n++) {
            String of = " of " + n + " places, no signs";
            Due.is("reached" + of, few.reached(n), n);
            Due.is("least of x" + of, few.least(n, firstPlace[n]), 0);
            Due.is("least of 0" + of, few.least(n, 0), NONE);
            Due.is("by of x" + of, few.by(n, firstPlace[n], -1), NONE);
            Due.is("by of x, part 0" + of, few.by(n, firstPlace[n], 0), NONE);
            Due.is("farthest 0" + of, few.farthest(n, 0), 0);
            Due.is("farthest 1" + of, few.farthest(n, 1), firstPlace[n]);
            Due.is("farthest 2" + of, few.farthest(n, 2), 0);
            Due.is("costing 0" + of, few.costing(n, 0), n);
            Due.is("costing 1" + of, few.costing(n, 1), 0);
            Due.is("costing MAX" + of, few.costing(n, Integer.MAX_VALUE), 0);
        }
        Due.is("least of y", few.least(2, 12), 0);
        Due.is("least of y among three", few.least(3, 204), 0);
        Due.is("least of z", few.least(3, 240), 0);
    }

    private static void nor() {
        FewSigns few = new FewSigns();
        few.sign(2, 1, 2);
        Due.is("reached(1) by nor", few.reached(1), 4);
        Due.is("reached(2) by nor", few.reached(2), 16);
        Due.is("reached(3) by nor", few.reached(3), 256);
        Due.is("not x by nor", few.least(1, 1), 2);
        Due.is("0 by nor: nor(x,nor(x,x))", few.least(1, 0), 4);
        Due.is("1 by nor: nor of 0 and 0, each anew", few.least(1, 3), 10);
        Due.is("1 by nor begins with", few.by(1, 3, -1), 0);
        Due.is("1 by nor, part 0", few.by(1, 3, 0), 0);
        Due.is("1 by nor, part 1", few.by(1, 3, 1), 0);
        Due.is("0 by nor, the least first part", few.by(1, 0, 0), 1);
        Due.is("0 by nor, the second part", few.by(1, 0, 1), 2);
        Due.is("farthest(1, 0)", few.farthest(1, 0), 10);
        Due.is("farthest(1, 1)", few.farthest(1, 1), 3);
        Due.is("farthest(1, 2)", few.farthest(1, 2), NONE);
        int[] due = {1, 0, 1, 0, 1, 0, 0, 0, 0, 0, 1, 0};
        for (int cost = 0; cost < due.length; cost++) {
            Due.is("costing(1, " + cost + ")", few.costing(1, cost), due[cost]);
        }
        Due.is("and by nor", few.least(2, 8), 6);
    }

    private static void dearAndCheap() {
        FewSigns few = new FewSigns();
        few.sign(2, 8, 9);
        few.sign(1, 1, 1);
        few.sign(2, 14, 1);
        Due.is("and, cheaper round about", few.least(2, 8), 4);
        Due.is("and begins with not", few.by(2, 8, -1), 1);
        Due.is("and, of what", few.by(2, 8, 0), 7);
        Due.is("and, no second part", few.by(2, 8, 1), NONE);
        few.sign(2, 8, 4);
        Due.is("and costs the same", few.least(2, 8), 4);
        Due.is("the least letter begins", few.by(2, 8, -1), 1);
        few.drop();
        few.sign(2, 8, 3);
        Due.is("and costs less", few.least(2, 8), 3);
        Due.is("the cheaper letter begins", few.by(2, 8, -1), 3);
        Due.is("its part 0", few.by(2, 8, 0), 10);
        Due.is("its part 1", few.by(2, 8, 1), 12);
        Due.is("its part 2", few.by(2, 8, 2), NONE);
    }

    private static void leastLetterAndParts() {
        FewSigns few = new FewSigns();
        few.sign(2, 14, 1);
        few.sign(2, 14, 1);
        Due.is("or by the first of two alike", few.by(2, 14, -1), 0);
        Due.is("or of three begins with", few.by(3, 254, -1), 0);
        Due.is("or of three, the least first part", few.by(3, 254, 0), 170);
        Due.is("or of three, its second part", few.by(3, 254, 1), 252);
        Due.is("or of three costs", few.least(3, 254), 2);
        Due.is("reached(3) by or", few.reached(3), 7);
        Due.is("the least that or does not reach", few.farthest(3, 2), 0);
        Due.is("the greatest cost by or", few.farthest(3, 0), 2);
        Due.is("and who has it", few.farthest(3, 1), 254);
        Due.is("costing(3, 1) by or", few.costing(3, 1), 3);
        Due.is("not reached by or", few.by(3, 1, -1), NONE);
        Due.is("part of what is not reached", few.by(3, 1, 0), NONE);
    }

    private static void nought() {
        FewSigns few = new FewSigns();
        few.sign(0, 0, 7);
        few.sign(0, 1, 3);
        few.sign(0, 0, 7);
        int[] full = {1, 3, 15, 255};
        for (int n = 1; n <= 3; n++) {
            Due.is("reached by 0 and 1", few.reached(n), n + 2);
            Due.is("0 costs", few.least(n, 0), 7);
            Due.is("0 begins with", few.by(n, 0, -1), 0);
            Due.is("0 has no part", few.by(n, 0, 0), NONE);
            Due.is("1 costs", few.least(n, full[n]), 3);
            Due.is("1 begins with", few.by(n, full[n], -1), 1);
            Due.is("the greatest cost", few.farthest(n, 0), 7);
            Due.is("who has it", few.farthest(n, 1), 0);
            Due.is("the least not reached", few.farthest(n, 2), 1);
        }
    }

    private static void threePlaces() {
        FewSigns few = new FewSigns();
        few.sign(3, 232, 2);
        few.sign(3, 150, 5);
        few.sign(0, 1, 1);
        Due.is("reached(1) by most, sum, 1: all keep ONE", few.reached(1), 2);
        Due.is("reached(2) by most, sum, 1: all keep ONE", few.reached(2), 8);
        Due.is("or is most of x, y, 1", few.least(2, 14), 3);
        Due.is("its sign", few.by(2, 14, -1), 0);
        Due.is("its part 0", few.by(2, 14, 0), 10);
        Due.is("its part 1", few.by(2, 14, 1), 12);
        Due.is("its part 2", few.by(2, 14, 2), 15);
        Due.is("like is the sum of x, y, 1", few.least(2, 9), 6);
        Due.is("like's sign", few.by(2, 9, -1), 1);
        Due.is("0 does not come", few.least(2, 0), NONE);
        Due.is("the least that does not come", few.farthest(2, 2), 0);
        Due.is("reached(3)", few.reached(3), STATE);
        Due.is("least(3, 255)", few.least(3, 255), STATE);
        Due.is("by(3, 255, -1)", few.by(3, 255, -1), STATE);
        Due.is("farthest(3, 0)", few.farthest(3, 0), STATE);
        Due.is("costing(3, 0)", few.costing(3, 0), STATE);
        Due.is("least(3, 256), BAD first", few.least(3, 256), BAD);
        Due.is("by(3, 255, 3), BAD first", few.by(3, 255, 3), BAD);
        Due.is("by(3, 256, 0), BAD first", few.by(3, 256, 0), BAD);
        Due.is("farthest(3, 3), BAD first", few.farthest(3, 3), BAD);
        Due.is("costing(3, -1), BAD first", few.costing(3, -1), BAD);
    }

    private static void refused() {
        FewSigns few = new FewSigns();
        few.sign(2, 7, 1);
        int[] limit = {2, 4, 16, 256};
        int[] noCount = {0, 4, -1, 33, Integer.MIN_VALUE, Integer.MAX_VALUE};
        for (int n : noCount) {
            Due.is("reached(" + n + ")", few.reached(n), BAD);
            Due.is("least(" + n + ", 0)", few.least(n, 0), BAD);
            Due.is("by(" + n + ", 0, 0)", few.by(n, 0, 0), BAD);
            Due.is("farthest(" + n + ", 0)", few.farthest(n, 0), BAD);
            Due.is("costing(" + n + ", 0)", few.costing(n, 0), BAD);
        }
        for (int n = 1; n <= 3; n++) {
            int[] noTable = {limit[n], -1, Integer.MIN_VALUE, Integer.MAX_VALUE};
            for (int table : noTable) {
                Due.is("least(" + n + ", " + table + ")", few.least(n, table), BAD);
                Due.is("by(" + n + ", " + table + ", 0)", few.by(n, table, 0), BAD);
            }
            int[] wrong = {-2, 3, Integer.MIN_VALUE, Integer.MAX_VALUE};
            for (int w : wrong) {
                Due.is("by(" + n + ", 0, " + w + ")", few.by(n, 0, w), BAD);
                Due.is("farthest(" + n + ", " + w + ")", few.farthest(n, w), BAD);
            }
            Due.is("farthest(" + n + ", -1)", few.farthest(n, -1), BAD);
            Due.is("costing(" + n + ", -1)", few.costing(n, -1), BAD);
            Due.is("costing(" + n + ", MIN)", few.costing(n, Integer.MIN_VALUE), BAD);
        }
    }

    /** What was found for some signs must not answer for others. */
    private static void afterChanges() {
        FewSigns few = new FewSigns();
        few.sign(2, 8, 3);
        Due.is("reached(2) by and", few.reached(2), 3);
        Due.is("reached(3) by and", few.reached(3), 7);
        few.sign(1, 1, 1);
        Due.is("reached(2) by and, not", few.reached(2), 16);
        Due.is("reached(3) by and, not", few.reached(3), 256);
        few.drop();
        Due.is("reached(2) by and again", few.reached(2), 3);
        few.drop();
        few.sign(2, 8, 5);
        Due.is("and costs otherwise now", few.least(2, 8), 5);
        Due.is("and of three costs twice as much", few.least(3, 128), 10);
        few.sign(2, 16, 1);
        Due.is("a refused sign changes nothing", few.least(3, 128), 10);
    }
}
