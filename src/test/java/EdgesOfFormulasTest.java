/** The boundary cases of promises 20 to 26, and of what the document says of FORMULAS as texts. */
public final class EdgesOfFormulasTest {
    private static final int BAD = FewSigns.BAD, STATE = FewSigns.STATE, FULL = FewSigns.FULL;
    private static final int LOWEST = Integer.MIN_VALUE, HIGHEST = Integer.MAX_VALUE;
    private static final int[] NO_FORMULA = {-1, 4, 5, 32, LOWEST, HIGHEST};

    public static void main(String[] args) {
        typeHowMany();
        typeToTheLastByte();
        typeNoPartOfWhatDoesNotFit();
        typeBadAheadOfFull();
        typeTheLowestBytes();
        typeAnyBytes();
        clearEmptyAndFull();
        readNoSuchFormula();
        readEmptyText();
        readEmptiesTheText();
        readWholeTexts();
        readEndsTooEarly();
        readBehindAWholeOne();
        readNoBlanks();
        readLettersOfSigns();
        readBytesBesideLetters();
        readPartsTooFewOrMany();
        readThirtyLetters();
        readEightBrackets();
        readFaultChangesNothing();
        formulaNoSuchThing();
        formulaLeast();
        formulaGreatest();
        formulaMatters();
        formulasBecomeXAgain();
        leastenedNoSuchFormula();
        leastenedState();
        leastenedOfAll();
        bothNoSuchThing();
        bothOfNoughtAndOne();
        bothOfOtherHalves();
        countNoSuchThing();
        countFromNoneToFull();
        Due.end("EdgesOfFormulasTest");
    }

    /** p of no places, q of one, r of two, s of three: 1, not, and, if x then y, else z. */
    private static FewSigns fourSigns() {
        FewSigns few = new FewSigns();
        few.sign(0, 1, 9);
        few.sign(1, 1, 9);
        few.sign(2, 8, 9);
        few.sign(3, 0xD8, 9);
        return few;
    }

    private static void fault(FewSigns few, String text, int place) {
        Due.is("read of " + text, Due.readAll(few, 1, text), -10 - place);
    }

    // ---- promise 20

    /** "The lowest n (1 .. 8) bytes" */
    private static void typeHowMany() {
        FewSigns few = new FewSigns();
        int[] none = {0, 9, -1, 10, 16, 64, 72, LOWEST, LOWEST + 1, HIGHEST};
        for (int n : none) {
            Due.is("type(0, " + n + ")", few.type(0, n), BAD);
            Due.is("type(-1, " + n + ")", few.type(-1L, n), BAD);
        }
        Due.is("nothing came", few.count(2), 0);
        int due = 0;
        for (int n = 1; n <= 8; n++) {
            due += n;
            Due.is("type(0, " + n + ")", few.type(0, n), due);
        }
    }

    /** "texts (80 bytes at most)": each count of bytes brings the text to its end, and not beyond. */
    private static void typeToTheLastByte() {
        for (int n = 1; n <= 8; n++) {
            FewSigns few = new FewSigns();
            for (int byOnes = 0; byOnes < 80 - n; byOnes++) {
                few.type('x', 1);
            }
            Due.is("the last " + n + " bytes", few.type(-1L, n), 80);
            Due.is("one byte beyond", few.type('x', 1), FULL);
            Due.is("full", few.count(2), 80);
            few.clear();
            for (int byOnes = 0; byOnes < 81 - n; byOnes++) {
                few.type('x', 1);
            }
            Due.is("one byte too many of " + n, few.type(-1L, n), FULL);
            Due.is("as it was", few.count(2), 81 - n);
        }
    }

    /** "Refused, and nothing changes": of bytes that do not all fit none comes. */
    private static void typeNoPartOfWhatDoesNotFit() {
        FewSigns few = fourSigns();
        String text = Texts.eighty();
        Due.is("it has 80 bytes", text.length(), 80);
        Due.typeAll(few, text.substring(0, 78));
        Due.is("three do not fit", few.type(0x292929, 3), FULL);
        Due.is("eight do not fit", few.type(-1L, 8), FULL);
        Due.is("two fit", few.type(0x2929, 2), 80);
        Due.is("the text is whole", few.read(0), 30);
        Due.is("x and y and not z", few.formula(0, 0), 8);
    }

    /** "the first of these: BAD .., FULL" */
    private static void typeBadAheadOfFull() {
        FewSigns few = new FewSigns();
        for (int i = 0; i < 10; i++) {
            few.type(0, 8);
        }
        Due.is("full", few.type(0, 8), FULL);
        Due.is("full, no bytes", few.type(0, 0), BAD);
        Due.is("full, nine bytes", few.type(0, 9), BAD);
        Due.is("full, fewer than none", few.type(0, -1), BAD);
        Due.is("full, so few that it would wrap around", few.type(0, LOWEST), BAD);
        Due.is("full, so many that it would wrap around", few.type(0, HIGHEST), BAD);
        Due.is("as it was", few.count(2), 80);
    }

    /** "The lowest n bytes of v, the highest of them first": what is above them does not come. */
    private static void typeTheLowestBytes() {
        String text = "s(x,y,z)";
        long whole = 0;
        for (int i = 0; i < 8; i++) {
            whole = whole << 8 | text.charAt(i);
        }
        for (int n = 1; n <= 8; n++) {
            FewSigns few = fourSigns();
            Due.typeAll(few, text.substring(0, 8 - n));
            long above = n < 8 ? -1L << 8 * n : 0;
            Due.is("the last " + n + " bytes, all above them 1", few.type(whole | above, n), 8);
            Due.is("it is " + text, few.read(0), 4);
            Due.is("its table", few.formula(0, 0), 0xD8);
        }
    }

    /** Any byte comes to the text; only read judges it. */
    private static void typeAnyBytes() {
        long[] some = {0, 255, 128, -1L, Long.MIN_VALUE, Long.MAX_VALUE, ' '};
        for (long v : some) {
            FewSigns few = new FewSigns();
            Due.is("type(" + v + ", 8)", few.type(v, 8), 8);
            Due.is("read of it", few.read(0), -10);
            Due.is("it stays", few.clear(), 8);
            Due.is("type(" + v + ", 1)", few.type(v, 1), 1);
            Due.is("read of one", few.read(0), -10);
        }
    }

    // ---- promise 21

    private static void clearEmptyAndFull() {
        FewSigns few = new FewSigns();
        Due.is("clear of an empty text", few.clear(), 0);
        for (int i = 0; i < 10; i++) {
            few.type(0, 8);
        }
        Due.is("clear of a full text", few.clear(), 80);
        Due.is("clear once more", few.clear(), 0);
        Due.is("room again", few.type('z', 1), 1);
        Due.is("nothing of the old text stays", few.read(0), 1);
        Due.is("it is z", few.formula(0, 0), 240);
        Due.is("clear after read", few.clear(), 0);
        Due.is("formulas stay", few.formula(0, 0), 240);
    }

    // ---- promise 22

    /** "FORMULAS 0 .. 3": BAD ahead of a FAULT, too. */
    private static void readNoSuchFormula() {
        FewSigns few = new FewSigns();
        for (int i : NO_FORMULA) {
            Due.is("read(" + i + ") of an empty text", few.read(i), BAD);
        }
        few.type('z', 1);
        for (int i : NO_FORMULA) {
            Due.is("read(" + i + ") of z", few.read(i), BAD);
        }
        Due.is("the text is as it was", few.count(2), 1);
        Due.is("read(3)", few.read(3), 1);
        few.type('z', 1);
        Due.is("read(0)", few.read(0), 1);
        Due.is("formula(0, 0)", few.formula(0, 0), 240);
        Due.is("formula(3, 0)", few.formula(3, 0), 240);
        Due.is("formula(1, 0)", few.formula(1, 0), 170);
    }

    /** "the text's length, if it ends too early": of an empty one 0. */
    private static void readEmptyText() {
        FewSigns few = new FewSigns();
        Due.is("read of an empty text", few.read(0), -10);
        few.sign(2, 7, 1);
        Due.is("read of an empty text, with a sign", few.read(3), -10);
        few.type('x', 1);
        few.clear();
        Due.is("read of a cleared text", few.read(0), -10);
        few.type('x', 1);
        few.read(0);
        Due.is("read of a text that was read", few.read(0), -10);
    }

    private static void readEmptiesTheText() {
        FewSigns few = fourSigns();
        for (int i = 0; i < 4; i++) {
            Due.typeAll(few, "q(z)");
            Due.is("read(" + i + ")", few.read(i), 2);
            Due.is("the text is empty then", few.count(2), 0);
            Due.is("formula(" + i + ", 0)", few.formula(i, 0), 15);
        }
    }

    /** Texts of one byte, and of all 80. */
    private static void readWholeTexts() {
        FewSigns few = fourSigns();
        String[] one = {"x", "y", "z", "p"};
        int[] tables = {170, 204, 240, 255};
        for (int i = 0; i < 4; i++) {
            Due.is("read of " + one[i], Due.readAll(few, i, one[i]), 1);
            Due.is("its table", few.formula(i, 0), tables[i]);
        }
        Due.is("typed whole", Due.typeAll(few, Texts.eighty()), 80);
        Due.is("read of 80 bytes, 30 letters", few.read(2), 30);
        int[] due = {8, 21 * 9, 5, 30, 7, 0xEF, 1, 1};
        for (int what = 0; what < 8; what++) {
            Due.is("of 80 bytes: formula(2, " + what + ")", few.formula(2, what), due[what]);
        }
    }

    /** "the text's length, if it ends too early": for each beginning of a whole text. */
    private static void readEndsTooEarly() {
        String whole = "s(q(x),r(p,y),q(q(z)))";
        for (int end = 0; end < whole.length(); end++) {
            fault(fourSigns(), whole.substring(0, end), end);
        }
        Due.is("read of it whole", Due.readAll(fourSigns(), 0, whole), 9);
        String long81 = Texts.eightyOne();
        Due.is("it has 81 bytes", long81.length(), 81);
        fault(fourSigns(), long81.substring(0, 80), 80);
    }

    /** "a byte behind a whole one": any byte. */
    private static void readBehindAWholeOne() {
        String[] whole = {"x", "p", "q(z)", "r(x,y)", "s(x,y,z)"};
        for (String text : whole) {
            FewSigns few = fourSigns();
            for (char more : "xp(),q\u0000 \u00ff".toCharArray()) {
                fault(few, text + more, text.length());
            }
        }
        String long79 = Texts.seventyNine();
        Due.is("it has 79 bytes", long79.length(), 79);
        Due.is("read of 79 bytes", Due.readAll(fourSigns(), 0, long79), 30);
        fault(fourSigns(), long79 + ")", 79);
        fault(fourSigns(), long79 + "x", 79);
    }

    /** "without blanks" */
    private static void readNoBlanks() {
        String whole = "r(x,q(y))";
        for (int at = 0; at <= whole.length(); at++) {
            fault(fourSigns(), whole.substring(0, at) + " " + whole.substring(at), at);
        }
    }

    /** "a letter of a SIGN that is not there": for each number of signs, each letter. */
    private static void readLettersOfSigns() {
        FewSigns few = new FewSigns();
        for (int signs = 0; signs <= 6; signs++) {
            for (int i = 0; i < 8; i++) {
                String letter = String.valueOf((char) ('p' + i));
                int due = i < signs ? 1 : -10;
                Due.is("of " + signs + " signs: read of " + letter, Due.readAll(few, 0, letter), due);
            }
            few.sign(0, 1, 1);
        }
        few.drop();
        fault(few, "u", 0);
        few.drop();
        few.sign(2, 8, 1);
        fault(few, "t(u,x)", 2);
        fault(few, "t(x,u)", 4);
        Due.is("the fifth is there", Due.readAll(few, 0, "t(s,x)"), 3);
    }

    /** Bytes just beside the letters, letters written large, and letters with the highest bit. */
    private static void readBytesBesideLetters() {
        for (int one = 0; one < 256; one++) {
            FewSigns few = fourSigns();
            boolean stands = one >= 'x' && one <= 'z' || one == 'p';
            boolean goesOn = one == 'q' || one == 'r' || one == 's';
            int due = stands ? 1 : goesOn ? -11 : -10;
            few.type(one, 1);
            Due.is("read of byte " + one, few.read(0), due);
        }
        FewSigns other = fourSigns();
        String[] wrong = {"q[x)", "q{x)", "q\u00a8x)", "q'x)", "q)x)"};
        for (String text : wrong) {
            fault(other, text, 1);
        }
        String[] unclosed = {"q(x*", "q(x]", "q(x}", "q(x\u00a9", "q(x("};
        for (String text : unclosed) {
            fault(other, text, 3);
        }
        String[] parted = {"r(x;y)", "r(x.y)", "r(x+y)", "r(x-y)", "r(x\u00acy)", "r(xy)"};
        for (String text : parted) {
            fault(other, text, 3);
        }
    }

    /** "as many as it has places ) behind it, if it has any" */
    private static void readPartsTooFewOrMany() {
        FewSigns few = fourSigns();
        fault(few, "p()", 1);
        fault(few, "p(x)", 1);
        fault(few, "x()", 1);
        fault(few, "q()", 2);
        fault(few, "q(x,y)", 3);
        fault(few, "r()", 2);
        fault(few, "r(x)", 3);
        fault(few, "r(x,)", 4);
        fault(few, "r(,x)", 2);
        fault(few, "r(x,y,z)", 5);
        fault(few, "s(x)", 3);
        fault(few, "s(x,y)", 5);
        fault(few, "s(x,y,)", 6);
        fault(few, "s(x,y,z,x)", 7);
        fault(few, "r(q(x,y),z)", 5);
        fault(few, "r(p(),z)", 3);
    }

    /** "30 letters at most": a 31st is the FAULT, whatever letter it is. */
    private static void readThirtyLetters() {
        FewSigns few = fourSigns();
        String thirty = Texts.thirtyLetters("x", "x");
        int last = thirty.lastIndexOf('x');
        Due.is("30 letters", Due.readAll(few, 0, thirty), 30);
        Due.is("30 letters, the last p", Due.readAll(few, 0, Texts.thirtyLetters("x", "p")), 30);
        fault(few, Texts.thirtyLetters("x", "q(x)"), last + 2);
        fault(few, Texts.thirtyLetters("x", "q(p)"), last + 2);
        fault(few, Texts.thirtyLetters("x", "q(q(x))"), last + 2);
        fault(few, Texts.thirtyLetters("x", "s(x,y,z)"), last + 2);
        fault(few, Texts.thirtyLetters("x", "q"), last + 1);
        fault(few, Texts.thirtyLetters("x", "u"), last);
        fault(few, thirty + "x", thirty.length());
        fault(few, thirty + ")", thirty.length());
        fault(few, thirty.substring(0, thirty.length() - 1), thirty.length() - 1);
        fault(few, thirty.substring(0, last + 1), last + 1);
        Due.is("80 bytes have 30 letters, too", Due.readAll(few, 0, Texts.eighty()), 30);
    }

    /** "8 ( open at a time", "a ninth ( too" */
    private static void readEightBrackets() {
        FewSigns few = fourSigns();
        Due.is("eight open", Due.readAll(few, 0, Texts.nested('q', 8, "x")), 9);
        fault(few, Texts.nested('q', 9, "x"), 17);
        fault(few, Texts.nested('q', 8, "r(x,y)"), 17);
        fault(few, Texts.nested('q', 8, "q"), 17);
        fault(few, Texts.nested('q', 8, "(x)"), 16);
        fault(few, Texts.nested('q', 8, ""), 16);
        fault(few, "q(".repeat(8), 16);
        fault(few, "q(".repeat(8) + "q", 17);
        fault(few, "q(".repeat(9), 17);
        Due.is("eight open, a sign of no places", Due.readAll(few, 0, Texts.nested('q', 8, "p")), 9);
        String seven = Texts.nested('q', 7, "x");
        Due.is("eight open, closed, and open again", Due.readAll(few, 0, "r(" + seven + "," + seven + ")"), 17);
        String eight = Texts.nested('q', 8, "x");
        fault(few, "r(" + eight + ",x)", 17);
        fault(few, "r(x," + eight + ")", 4 + 15);
        fault(few, "s(x,y," + eight + ")", 6 + 15);
    }

    /** "-10 less FAULT: nothing changes." */
    private static void readFaultChangesNothing() {
        FewSigns few = fourSigns();
        Due.readAll(few, 2, "r(y,q(z))");
        Due.typeAll(few, "r(x,y");
        for (int i = 0; i < 4; i++) {
            Due.is("read(" + i + ") too early", few.read(i), -15);
            Due.is("the text stays", few.count(2), 5);
        }
        int[] due = {12, 18, 2, 4};
        for (int what = 0; what < 4; what++) {
            Due.is("formula(2, " + what + ") stays", few.formula(2, what), due[what]);
        }
        Due.is("formula(0, 0) stays", few.formula(0, 0), 170);
        Due.is("the text goes on", few.type(')', 1), 6);
        Due.is("and is whole", few.read(2), 3);
        Due.is("formula(2, 0)", few.formula(2, 0), 136);
    }

    // ---- promise 23

    private static void formulaNoSuchThing() {
        FewSigns few = new FewSigns();
        for (int i : NO_FORMULA) {
            for (int what = 0; what < 8; what++) {
                Due.is("formula(" + i + ", " + what + ")", few.formula(i, what), BAD);
            }
        }
        int[] none = {-1, 8, 9, 32, LOWEST, HIGHEST};
        for (int what : none) {
            for (int i = 0; i < 4; i++) {
                Due.is("formula(" + i + ", " + what + ")", few.formula(i, what), BAD);
            }
        }
    }

    /** "DEPTH (0 of x, y, z; .. 1 of a SIGN of no places)", COST of x, y, z nothing, TRUE of none. */
    private static void formulaLeast() {
        FewSigns few = fourSigns();
        String[] texts = {"y", "p", "q(p)", "q(x)"};
        int[][] due = {
            {204, 0, 0, 1, 2, 204, 4, 31},
            {255, 9, 1, 1, 0, 0, 8, 26},
            {0, 18, 2, 2, 0, 255, 0, 25},
            {85, 9, 1, 2, 1, 85, 4, 20},
        };
        for (int i = 0; i < 4; i++) {
            Due.readAll(few, i, texts[i]);
            for (int what = 0; what < 8; what++) {
                Due.is("of " + texts[i] + ": formula(" + i + ", " + what + ")", few.formula(i, what), due[i][what]);
            }
        }
    }

    /** 30 letters of cost 9 each; eight brackets and a sign of no places in them. */
    private static void formulaGreatest() {
        FewSigns few = fourSigns();
        Due.is("30 signs", Due.readAll(few, 0, Texts.thirtyLetters("p", "p")), 30);
        Due.is("their cost", few.formula(0, 1), 270);
        Due.is("their letters", few.formula(0, 3), 30);
        Due.is("their table", few.formula(0, 0), 255);
        Due.is("the deepest", Due.readAll(few, 1, Texts.nested('q', 8, "p")), 9);
        Due.is("its depth", few.formula(1, 2), 9);
        Due.is("its table", few.formula(1, 0), 255);
        Due.is("its cost", few.formula(1, 1), 81);
        Due.is("deep in its last part", Due.readAll(few, 2, "s(x,y," + Texts.nested('q', 7, "z") + ")"), 11);
        Due.is("its depth", few.formula(2, 2), 8);
        Due.is("deep in its first part", Due.readAll(few, 3, "s(" + Texts.nested('q', 7, "z") + ",p,x)"), 11);
        Due.is("its depth", few.formula(3, 2), 8);
    }

    /** "places i for which some two rows that differ in i alone tell unlike": none, one pair, all. */
    private static void formulaMatters() {
        FewSigns few = fourSigns();
        String[] texts = {"p", "r(x,q(x))", "r(x,r(y,z))", "s(x,y,y)", "s(p,x,y)", "z"};
        int[] due = {0, 0, 7, 2, 1, 4};
        for (int i = 0; i < texts.length; i++) {
            Due.readAll(few, 0, texts[i]);
            Due.is("matters of " + texts[i], few.formula(0, 4), due[i]);
        }
    }

    /** "all again once a SIGN is told, or gone": THE TEXT is no FORMULA, and stays. */
    private static void formulasBecomeXAgain() {
        FewSigns few = fourSigns();
        int[] ofX = {170, 0, 0, 1, 1, 170, 4, 31};
        for (int turn = 0; turn < 3; turn++) {
            for (int i = 0; i < 4; i++) {
                Due.readAll(few, i, "r(y,q(p))");
                Due.is("read in turn " + turn, few.formula(i, 1), 27);
            }
            few.type('z', 1);
            Due.is("a sign told or gone", turn == 1 ? few.drop() : few.sign(1, 1, 1), 4);
            for (int i = 0; i < 4; i++) {
                for (int what = 0; what < 8; what++) {
                    Due.is("formula(" + i + ", " + what + ") again", few.formula(i, what), ofX[what]);
                }
            }
            Due.is("the text stays", few.count(2), 1);
            Due.is("and can be read", few.read(0), 1);
            Due.is("as it was", few.formula(0, 0), 240);
        }
    }

    // ---- promise 24

    private static void leastenedNoSuchFormula() {
        FewSigns few = new FewSigns();
        for (int turn = 0; turn < 2; turn++) {
            for (int i : NO_FORMULA) {
                Due.is("leastened(" + i + ")", few.leastened(i), BAD);
            }
            few.sign(3, 0, 1);
        }
    }

    /** "STATE: some SIGN has 3 places": though the formula has none of it. */
    private static void leastenedState() {
        FewSigns few = new FewSigns();
        few.sign(3, 232, 1);
        few.sign(1, 1, 1);
        for (int i = 0; i < 4; i++) {
            Due.is("leastened(" + i + ") of x", few.leastened(i), STATE);
        }
        Due.readAll(few, 0, "q(x)");
        Due.is("leastened(0) of not x", few.leastened(0), STATE);
        Due.is("leastened(4), BAD first", few.leastened(4), BAD);
        few.drop();
        Due.is("leastened(0), another gone", few.leastened(0), STATE);
        few.drop();
        Due.is("leastened(0), it is gone", few.leastened(0), 0);
    }

    /** "NONE never": each table that a formula has is reached, at no more than its own cost. */
    private static void leastenedOfAll() {
        FewSigns few = new FewSigns();
        few.sign(0, 1, 9);
        few.sign(1, 1, 2);
        few.sign(2, 8, 5);
        String[] texts = {"x", "p", "q(p)", "q(q(z))", "r(x,q(x))", "r(x,x)", "q(r(q(x),q(y)))", Texts.eighty()};
        int[] due = {0, 9, 7, 0, 7, 0, 11, 12};
        for (int i = 0; i < texts.length; i++) {
            Due.readAll(few, i % 4, texts[i]);
            Due.is("leastened of " + texts[i], few.leastened(i % 4), due[i]);
            Due.holds("at most its cost", few.leastened(i % 4) <= few.formula(i % 4, 1));
        }
    }

    // ---- promise 25

    private static void bothNoSuchThing() {
        FewSigns few = new FewSigns();
        for (int i : NO_FORMULA) {
            for (int what = 0; what < 3; what++) {
                Due.is("both(" + i + ", 0, " + what + ")", few.both(i, 0, what), BAD);
                Due.is("both(3, " + i + ", " + what + ")", few.both(3, i, what), BAD);
                Due.is("both(" + i + ", " + i + ", " + what + ")", few.both(i, i, what), BAD);
            }
        }
        int[] none = {-1, 3, 4, 32, LOWEST, HIGHEST};
        for (int what : none) {
            Due.is("both(0, 0, " + what + ")", few.both(0, 0, what), BAD);
            Due.is("both(3, 3, " + what + ")", few.both(3, 3, what), BAD);
        }
        for (int what = 0; what < 3; what++) {
            Due.is("both(0, 3, " + what + ") of x, x", few.both(0, 3, what), 1);
        }
    }

    /** "where the one tells 1 the other does": one that never tells 1 implies all, all imply one that always does. */
    private static void bothOfNoughtAndOne() {
        FewSigns few = fourSigns();
        String[] texts = {"q(p)", "x", "q(x)", "p"};
        for (int i = 0; i < 4; i++) {
            Due.readAll(few, i, texts[i]);
        }
        int[][] implies = {{1, 1, 1, 1}, {0, 1, 0, 1}, {0, 0, 1, 1}, {0, 0, 0, 1}};
        for (int i = 0; i < 4; i++) {
            for (int j = 0; j < 4; j++) {
                Due.is(texts[i] + " is " + texts[j], few.both(i, j, 0), i == j ? 1 : 0);
                Due.is(texts[i] + " implies " + texts[j], few.both(i, j, 1), implies[i][j]);
            }
        }
    }

    /** "one is the OTHER HALF of the other": 0 of 1 and 1 of 0, x and not x each of itself. */
    private static void bothOfOtherHalves() {
        FewSigns few = fourSigns();
        String[] texts = {"q(p)", "x", "q(x)", "p"};
        for (int i = 0; i < 4; i++) {
            Due.readAll(few, i, texts[i]);
        }
        int[] half = {3, 1, 2, 0};
        for (int i = 0; i < 4; i++) {
            for (int j = 0; j < 4; j++) {
                Due.is(texts[i] + ", " + texts[j] + " are halves", few.both(i, j, 2), j == half[i] ? 1 : 0);
            }
        }
    }

    // ---- promise 26

    private static void countNoSuchThing() {
        FewSigns few = fourSigns();
        int[] none = {-1, 3, 4, 32, LOWEST, HIGHEST};
        for (int what : none) {
            Due.is("count(" + what + ")", few.count(what), BAD);
        }
    }

    private static void countFromNoneToFull() {
        FewSigns few = new FewSigns();
        for (int signs = 0; signs <= 6; signs++) {
            Due.is("count(0)", few.count(0), signs);
            Due.is("count(1)", few.count(1), signs);
            few.sign(3, 0, 1);
        }
        Due.is("count(0), full", few.count(0), 6);
        Due.is("count(1), full", few.count(1), 6);
        few.drop();
        few.sign(2, 0, 1);
        Due.is("count(1), one of two places", few.count(1), 5);
        for (int bytes = 0; bytes <= 80; bytes++) {
            Due.is("count(2)", few.count(2), bytes);
            few.type('x', 1);
        }
        Due.is("count(2), full", few.count(2), 80);
    }
}
