/** Promises 20 to 26: type, clear, read, formula, leastened, both, count. */
public final class FormulasTest {
    private static final int BAD = FewSigns.BAD, STATE = FewSigns.STATE, FULL = FewSigns.FULL;

    public static void main(String[] args) {
        type();
        clear();
        read();
        faults();
        thirtyLetters();
        eightBrackets();
        readRefused();
        formula();
        formulasBeginAgain();
        leastened();
        both();
        count();
        Due.end("FormulasTest");
    }

    /** A sign of each number of places: p of none, q of one, r of two, s of three. */
    private static FewSigns fourSigns() {
        FewSigns few = new FewSigns();
        few.sign(0, 1, 4);
        few.sign(1, 1, 1);
        few.sign(2, 8, 2);
        few.sign(3, 0xD8, 3);
        return few;
    }

    private static void type() {
        FewSigns few = new FewSigns();
        Due.is("type, bytes beyond are left out", few.type(0x4142434445464778L, 1), 1);
        Due.is("read x", few.read(0), 1);
        int[] noCount = {0, 9, -1, Integer.MIN_VALUE, Integer.MAX_VALUE};
        for (int n : noCount) {
            Due.is("type(0, " + n + ")", few.type(0, n), BAD);
        }
        for (int i = 1; i <= 9; i++) {
            Due.is("type eight", few.type(-1L, 8), 8 * i);
        }
        Due.is("type seven", few.type(0, 7), 79);
        Due.is("type two beyond the end", few.type(0, 2), FULL);
        Due.is("type eight beyond the end", few.type(0, 8), FULL);
        Due.is("count(2), still", few.count(2), 79);
        Due.is("type the 80th", few.type(0, 1), 80);
        Due.is("type the 81st", few.type(0, 1), FULL);
        Due.is("type none, BAD first", few.type(0, 0), BAD);
        Due.is("type nine, BAD first", few.type(0, 9), BAD);
        Due.is("count(2), full", few.count(2), 80);
        Due.is("clear", few.clear(), 80);
        // The highest byte comes first: q(x), not )x(q.
        FewSigns order = fourSigns();
        Due.is("type q(x)", order.type(0x71287829L, 4), 4);
        Due.is("read q(x)", order.read(1), 2);
        Due.is("its table", order.formula(1, 0), 85);
    }

    private static void clear() {
        FewSigns few = new FewSigns();
        Due.is("clear of none", few.clear(), 0);
        few.type('y', 1);
        few.type('z', 1);
        Due.is("clear", few.clear(), 2);
        Due.is("clear again", few.clear(), 0);
        few.type('z', 1);
        Due.is("read after clear", few.read(3), 1);
        Due.is("its table", few.formula(3, 0), 240);
    }

    private static void read() {
        FewSigns few = fourSigns();
        String[] texts = {"x", "y", "z", "p", "q(p)", "r(x,y)", "s(x,y,z)", "s(p,q(x),r(y,z))", "q(q(q(z)))"};
        int[] letters = {1, 1, 1, 1, 2, 3, 4, 7, 4};
        for (int i = 0; i < texts.length; i++) {
            few.clear();
            Due.is("type " + texts[i], Due.typeAll(few, texts[i]), texts[i].length());
            Due.is("read " + texts[i], few.read(i % 4), letters[i]);
            Due.is("the text after " + texts[i], few.count(2), 0);
            Due.is("letters of " + texts[i], few.formula(i % 4, 3), letters[i]);
        }
        few.type('y', 1);
        few.sign(2, 7, 1);
        Due.is("a sign told leaves the text", few.count(2), 1);
        few.drop();
        Due.is("a sign gone leaves the text", few.count(2), 1);
        Due.is("read it then", few.read(0), 1);
    }

    private static void fault(FewSigns few, String text, int place) {
        Due.is("read " + text, Due.readAll(few, 0, text), -10 - place);
    }

    private static void faults() {
        FewSigns few = fourSigns();
        fault(few, "", 0);
        fault(few, "t", 0);
        fault(few, "u(x)", 0);
        fault(few, "o", 0);
        fault(few, "w", 0);
        fault(few, "{", 0);
        fault(few, "X", 0);
        fault(few, " x", 0);
        fault(few, "x ", 1);
        fault(few, "(x)", 0);
        fault(few, ")", 0);
        fault(few, ",", 0);
        fault(few, "\u0000", 0);
        fault(few, "\u00f8", 0);
        fault(few, "x\u0000", 1);
        fault(few, "xy", 1);
        fault(few, "x(y)", 1);
        fault(few, "p(x)", 1);
        fault(few, "p()", 1);
        fault(few, "pp", 1);
        fault(few, "q", 1);
        fault(few, "qx", 1);
        fault(few, "q(", 2);
        fault(few, "q()", 2);
        fault(few, "q(,", 2);
        fault(few, "q((", 2);
        fault(few, "q(x", 3);
        fault(few, "q(x,y)", 3);
        fault(few, "q(x(", 3);
        fault(few, "q(x))", 4);
        fault(few, "q(x)x", 4);
        fault(few, "q(x),y", 4);
        fault(few, "r(x)", 3);
        fault(few, "r(x,", 4);
        fault(few, "r(x,)", 4);
        fault(few, "r(x,y", 5);
        fault(few, "r(x,y,z)", 5);
        fault(few, "r(x, y)", 4);
        fault(few, "r(x,t)", 4);
        fault(few, "s(x,y)", 5);
        fault(few, "s(x,y,z", 7);
        fault(few, "s(x,y,z,x)", 7);
        fault(few, "s(q(x),r(x,y),p", 15);
        fault(few, "s(q(x),r(x,y),p()", 15);
        few.drop();
        fault(few, "s(x,y,z)", 0);
        fault(few, "r(s,x)", 2);
    }

    private static void thirtyLetters() {
        FewSigns few = new FewSigns();
        few.sign(3, 150, 9);
        few.sign(2, 6, 9);
        few.sign(1, 2, 9);
        String thirty = "q(q(x,q(x,x))," + "p(x,p(x,x,x),p(x,p(x,x,x),p(x,p(x,x,x),p(x,x,x)))))";
        Due.is("28 letters", Due.readAll(few, 0, thirty), 28);
        thirty = thirty.replace("q(x,x)", "q(x,q(x,x))");
        Due.is("30 letters", Due.readAll(few, 0, thirty), 30);
        Due.is("its cost", few.formula(0, 1), 9 * 11);
        Due.is("its letters", few.formula(0, 3), 30);
        String more = thirty.replace("x)))))", "r(x))))))");
        Due.is("31 letters", Due.readAll(few, 1, more), -10 - more.lastIndexOf('x'));
        String open = thirty.replace("x)))))", "r)))))");
        Due.is("the 30th wants a bracket", Due.readAll(few, 1, open), -10 - open.indexOf("r)") - 1);
        Due.is("formula(1, 0) is as it was", few.formula(1, 0), 170);
        Due.is("formula(0, 3) is as it was", few.formula(0, 3), 30);
    }

    private static void eightBrackets() {
        FewSigns few = new FewSigns();
        few.sign(1, 1, 9);
        few.sign(2, 7, 1);
        few.sign(0, 1, 1);
        Due.is("eight open", Due.readAll(few, 0, "p(p(p(p(p(p(p(p(y))))))))"), 9);
        Due.is("its table", few.formula(0, 0), 204);
        Due.is("its depth", few.formula(0, 2), 8);
        Due.is("its cost", few.formula(0, 1), 72);
        Due.is("with a sign of no places inside", Due.readAll(few, 0, "p(p(p(p(p(p(p(p(r))))))))"), 9);
        Due.is("its depth", few.formula(0, 2), 9);
        Due.is("nine open", Due.readAll(few, 0, "p(p(p(p(p(p(p(p(p(y)))))))))"), -10 - 17);
        Due.is("ends before the ninth", Due.readAll(few, 0, "p(p(p(p(p(p(p(p(p"), -10 - 17);
        Due.is("no bracket where the ninth would be", Due.readAll(few, 0, "p(p(p(p(p(p(p(p(p)"), -10 - 17);
        Due.is("ends at eight", Due.readAll(few, 0, "p(p(p(p(p(p(p(p("), -10 - 16);
        Due.is("open again after closing",
                Due.readAll(few, 0, "q(p(p(p(p(p(p(p(x))))))),p(p(p(p(p(p(p(x))))))))"), 17);
        Due.is("its depth", few.formula(0, 2), 8);
    }

    private static void readRefused() {
        FewSigns few = fourSigns();
        few.type('z', 1);
        int[] none = {-1, 4, Integer.MIN_VALUE, Integer.MAX_VALUE};
        for (int i : none) {
            Due.is("read(" + i + ")", few.read(i), BAD);
        }
        Due.is("the text is as it was", few.count(2), 1);
        Due.is("read(2)", few.read(2), 1);
        Due.typeAll(few, "q(x");
        Due.is("read(2), too early", few.read(2), -13);
        Due.is("the text is as it was", few.count(2), 3);
        Due.is("the formula is as it was", few.formula(2, 0), 240);
        Due.is("read(9) of a fault, BAD first", few.read(9), BAD);
        few.type(')', 1);
        Due.is("the text goes on", few.read(2), 2);
        Due.is("the formula is new", few.formula(2, 0), 85);
        Due.is("read(2) of an empty text", few.read(2), -10);
    }

    private static void formula() {
        FewSigns few = fourSigns();
        String[] texts = {"x", "p", "r(x,z)", "s(x,y,z)", "q(s(r(p,x),q(q(y)),x))", "r(x,q(x))", "s(z,p,q(y))"};
        int[][] due = {
            {170, 0, 0, 1, 1, 170, 4, 31},
            {255, 4, 1, 1, 0, 0, 8, 2 + 8 + 16},
            {160, 2, 1, 3, 5, 250, 2, 1 + 2 + 8},
            {0xD8, 3, 1, 4, 7, 0xE4, 4, 3},
            {0x77, 3 + 2 + 4 + 3, 4, 9, 3, 0x11, 6, 0},
            {0, 3, 2, 4, 0, 255, 0, 1 + 8 + 16},
            {0xF3, 4 + 4, 2, 5, 6, 0x30, 6, 2},
        };
        for (int i = 0; i < texts.length; i++) {
            int into = i % 4;
            Due.readAll(few, into, texts[i]);
            for (int what = 0; what < 8; what++) {
                Due.is("formula of " + texts[i] + ", " + what, few.formula(into, what), due[i][what]);
            }
        }
        Due.readAll(few, 0, "s(y,z,x)");
        // Its rows (x, y, z) tell what s tells of (y, z, x): 1 of y and z, of x alone, of x, z, of all.
        Due.is("s(y,z,x)", few.formula(0, 0), 1 << 6 | 1 << 1 | 1 << 5 | 1 << 7);
        Due.is("formula(0, -1)", few.formula(0, -1), BAD);
        Due.is("formula(0, 8)", few.formula(0, 8), BAD);
        Due.is("formula(-1, 0)", few.formula(-1, 0), BAD);
        Due.is("formula(4, 0)", few.formula(4, 0), BAD);
        Due.is("formula(MIN, MAX)", few.formula(Integer.MIN_VALUE, Integer.MAX_VALUE), BAD);
        Due.is("formula(0, MIN)", few.formula(0, Integer.MIN_VALUE), BAD);
    }

    private static void formulasBeginAgain() {
        FewSigns few = fourSigns();
        for (int turn = 0; turn < 2; turn++) {
            for (int i = 0; i < 4; i++) {
                Due.readAll(few, i, "r(y,q(z))");
                Due.is("formula(i, 0) read", few.formula(i, 0), 204 & 15);
            }
            Due.is("a sign told or gone", turn == 0 ? few.sign(0, 0, 1) : few.drop(), 4);
            for (int i = 0; i < 4; i++) {
                Due.is("formula(i, 0), x again", few.formula(i, 0), 170);
                Due.is("formula(i, 1), x again", few.formula(i, 1), 0);
                Due.is("formula(i, 2), x again", few.formula(i, 2), 0);
                Due.is("formula(i, 3), x again", few.formula(i, 3), 1);
            }
        }
    }

    private static void leastened() {
        FewSigns few = new FewSigns();
        Due.is("leastened of x", few.leastened(0), 0);
        few.sign(2, 7, 3);
        Due.readAll(few, 1, "p(p(x,x),p(x,x))");
        Due.is("leastened of not not x", few.leastened(1), 0);
        Due.readAll(few, 1, "p(p(x,y),p(y,x))");
        Due.is("leastened of and", few.leastened(1), 9);
        Due.readAll(few, 2, "p(p(p(p(p(y,y),p(y,y)),x),p(x,y)),p(z,p(z,p(z,z))))");
        Due.is("leastened of one of twelve signs", few.leastened(2), few.least(3, few.formula(2, 0)));
        few.sign(2, 8, 2);
        Due.readAll(few, 1, "p(p(x,y),p(y,x))");
        Due.is("leastened of and, by its own sign", few.leastened(1), 2);
        few.sign(3, 128, 1);
        Due.is("leastened(0), a sign of three places", few.leastened(0), STATE);
        Due.is("leastened(4), BAD first", few.leastened(4), BAD);
        Due.is("leastened(-1), BAD first", few.leastened(-1), BAD);
        few.drop();
        Due.is("leastened(0), it is gone", few.leastened(0), 0);
        Due.is("leastened(4)", few.leastened(4), BAD);
        Due.is("leastened(MIN)", few.leastened(Integer.MIN_VALUE), BAD);
    }

    private static void both() {
        FewSigns few = new FewSigns();
        few.sign(2, 8, 1);
        few.sign(2, 14, 1);
        Due.readAll(few, 0, "p(x,y)");
        Due.readAll(few, 1, "q(x,y)");
        Due.readAll(few, 2, "p(y,x)");
        Due.is("the same", few.both(0, 2, 0), 1);
        Due.is("not the same", few.both(0, 1, 0), 0);
        Due.is("and implies or", few.both(0, 1, 1), 1);
        Due.is("or does not imply and", few.both(1, 0, 1), 0);
        Due.is("and implies itself", few.both(0, 2, 1), 1);
        Due.is("and, or are other halves", few.both(0, 1, 2), 1);
        Due.is("or, and are other halves", few.both(1, 0, 2), 1);
        Due.is("and is not its own", few.both(0, 2, 2), 0);
        Due.is("x is its own", few.both(3, 3, 2), 1);
        Due.is("x and and are not", few.both(3, 0, 2), 0);
        int[] none = {-1, 4, Integer.MIN_VALUE, Integer.MAX_VALUE};
        for (int i : none) {
            Due.is("both(" + i + ", 0, 0)", few.both(i, 0, 0), BAD);
            Due.is("both(0, " + i + ", 0)", few.both(0, i, 0), BAD);
            Due.is("both(0, 0, " + i + ")", few.both(0, 0, i), BAD);
        }
        Due.is("both(0, 0, 3)", few.both(0, 0, 3), BAD);
    }

    private static void count() {
        FewSigns few = fourSigns();
        few.sign(3, 0, 1);
        few.type(0, 5);
        Due.is("count(0)", few.count(0), 5);
        Due.is("count(1)", few.count(1), 2);
        Due.is("count(2)", few.count(2), 5);
        few.drop();
        Due.is("count(0), one gone", few.count(0), 4);
        Due.is("count(1), one gone", few.count(1), 1);
        int[] none = {-1, 3, Integer.MIN_VALUE, Integer.MAX_VALUE};
        for (int what : none) {
            Due.is("count(" + what + ")", few.count(what), BAD);
        }
    }
}
