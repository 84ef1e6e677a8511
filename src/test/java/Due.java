/** What the project's tests share: they say which answer is due, and end with 1 if one is not. */
final class Due {
    /** The document tells nothing of an object's later calls, so no test asks for more of one. */
    static final int MOST_CALLS = 512;

    private static int calls = 0;
    private static int wrong = 0;

    private Due() {
    }

    static void is(String call, long got, long want) {
        calls++;
        if (got != want) {
            wrong++;
            System.out.println(call + " answered " + got + ", due is " + want);
        }
    }

    static void holds(String what, boolean so) {
        calls++;
        if (!so) {
            wrong++;
            System.out.println("does not hold: " + what);
        }
    }

    /** How many answers have been looked at so far. */
    static int calls() {
        return calls;
    }

    /** Types a text whole, eight bytes a call at most; the last answer. */
    static int typeAll(FewSigns few, String text) {
        int answer = few.count(2);
        for (int from = 0; from < text.length(); from += 8) {
            int to = Math.min(text.length(), from + 8);
            long bytes = 0;
            for (int i = from; i < to; i++) {
                bytes = bytes << 8 | text.charAt(i);
            }
            answer = few.type(bytes, to - from);
        }
        return answer;
    }

    /** Reads a text as a formula; the text is empty afterwards, whatever came of it. */
    static int readAll(FewSigns few, int i, String text) {
        few.clear();
        typeAll(few, text);
        int answer = few.read(i);
        few.clear();
        return answer;
    }

    static void end(String name) {
        System.out.println(name + ": " + calls + " answers, " + wrong + " not as due");
        if (wrong != 0 || calls == 0) {
            System.exit(1);
        }
    }
}
