/** Texts of formulas that stand just at a limit of the document. */
final class Texts {
    private Texts() {
    }

    /** All leaves joined by a sign of two places, halved over and over, so that few brackets are open. */
    static String joined(char sign, String... leaves) {
        return joined(sign, leaves, 0, leaves.length);
    }

    private static String joined(char sign, String[] leaves, int from, int to) {
        if (to - from == 1) {
            return leaves[from];
        }
        int middle = (from + to) / 2;
        return sign + "(" + joined(sign, leaves, from, middle) + "," + joined(sign, leaves, middle, to) + ")";
    }

    /** A sign of one place so many times around a text. */
    static String nested(char sign, int times, String inside) {
        return (sign + "(").repeat(times) + inside + ")".repeat(times);
    }

    /** 80 bytes, 30 letters: 13 times q of one place, 8 times r of two, and 9 leaves. */
    static String eighty() {
        return joined('r', "q(q(x))", "q(q(x))", "q(q(y))", "q(q(y))", "q(z)", "q(z)", "q(z)", "q(z)", "q(z)");
    }

    /** 79 bytes, 30 letters: 11 times q of one place, 9 times r of two, and 10 leaves. */
    static String seventyNine() {
        return joined('r', "q(q(x))", "q(z)", "q(z)", "q(z)", "q(z)", "q(z)", "q(z)", "q(z)", "q(z)", "q(z)");
    }

    /** 81 bytes, 30 letters: one more than a text has room for. */
    static String eightyOne() {
        return joined('r', "q(q(x))", "q(q(x))", "q(q(x))", "q(q(x))", "q(q(x))", "q(q(x))", "q(q(x))", "q(x)");
    }

    /** 30 letters, made of s of three places, r of two and leaves; the last leaf is the 30th letter. */
    static String thirtyLetters(String leaf, String last) {
        String three = "s(" + leaf + "," + leaf + "," + leaf + ")";
        String ten = "s(" + three + "," + three + "," + leaf + ")";
        String nine = "s(" + three + ",r(" + leaf + "," + leaf + ")," + last + ")";
        return "s(" + ten + "," + ten + "," + nine + ")";
    }
}
