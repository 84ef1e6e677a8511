import java.util.ArrayList;
import java.util.List;

/**
 * "Refused, and nothing changes, the first of these: BAD .., STATE .., FULL."
 *
 * Each refused call is made on objects in several states; afterwards the object answers whatever is
 * asked as its twin does, which was made alike and saw no refused call.
 */
public final class RefusedTest {
    private static final int BAD = FewSigns.BAD, STATE = FewSigns.STATE, FULL = FewSigns.FULL;
    private static final int LOWEST = Integer.MIN_VALUE, HIGHEST = Integer.MAX_VALUE;

    /** New; some signs and half a text; six signs, some of three places, and a full text; six signs, a byte of room. */
    private static final int NEW = 0, SOME = 1, WIDE = 2, FILLED = 3, STATES = 4;
    private static final int TRACES = 6;

    private final int[][][] twins = new int[STATES][TRACES][];

    private interface Call {
        int on(FewSigns few);
    }

    public static void main(String[] args) {
        RefusedTest test = new RefusedTest();
        for (int state = 0; state < STATES; state++) {
            for (int trace = 0; trace < TRACES; trace++) {
                test.twins[state][trace] = traced(made(state), trace);
            }
        }
        test.badSigns();
        test.badSaying();
        test.badFamilies();
        test.badRelations();
        test.badFormulas();
        test.states();
        test.fulls();
        test.faults();
        askingChangesNothing(test);
        Due.end("RefusedTest");
    }

    // ---- the states

    private static FewSigns made(int state) {
        FewSigns few = new FewSigns();
        if (state == NEW) {
            return few;
        }
        few.sign(0, 1, 4);
        few.sign(1, 1, 2);
        few.sign(2, 8, 3);
        if (state != SOME) {
            few.sign(state == WIDE ? 3 : 2, state == WIDE ? 232 : 7, 9);
            few.sign(0, 0, 1);
            few.sign(state == WIDE ? 3 : 2, 6, 5);
        }
        Due.readAll(few, 0, "r(x,q(z))");
        Due.readAll(few, 1, "p");
        Due.readAll(few, 3, "r(r(x,y),z)");
        String text = state == SOME ? "r(z," : state == WIDE ? Texts.eighty() : Texts.eighty().substring(0, 79);
        Due.typeAll(few, text);
        return few;
    }

    // ---- what is asked afterwards; two traces together stay under 512 calls

    private static int[] traced(FewSigns few, int trace) {
        List<Integer> answers = new ArrayList<>();
        switch (trace) {
            case 0: traceSigns(few, answers); break;
            case 1: traceLeast(few, answers); break;
            case 2: traceBy(few, answers); break;
            case 3: traceRelations(few, answers); break;
            case 4: traceText(few, answers); break;
            default: traceChanges(few, answers); break;
        }
        return answers.stream().mapToInt(Integer::intValue).toArray();
    }

    private static void traceSigns(FewSigns few, List<Integer> answers) {
        for (int i = 0; i < 6; i++) {
            for (int what = 0; what < 4; what++) {
                answers.add(few.about(i, what));
            }
        }
        for (int set = 0; set < 64; set++) {
            answers.add(few.says(set));
            answers.add(few.lacks(set));
        }
        for (int i = -1; i < 8; i++) {
            answers.add(few.sets(i));
        }
        for (int what = 0; what < 3; what++) {
            answers.add(few.count(what));
        }
    }

    private static void traceLeast(FewSigns few, List<Integer> answers) {
        for (int n = 1; n <= 3; n++) {
            answers.add(few.reached(n));
            for (int table = 0; table < 1 << (1 << n); table += n == 3 ? 3 : 1) {
                answers.add(few.least(n, table));
            }
            for (int what = 0; what < 3; what++) {
                answers.add(few.farthest(n, what));
            }
            for (int cost = 0; cost < 30; cost++) {
                answers.add(few.costing(n, cost));
            }
        }
    }

    private static void traceBy(FewSigns few, List<Integer> answers) {
        for (int part = -1; part < 3; part++) {
            for (int table = 0; table < 16; table++) {
                answers.add(few.by(2, table, part));
            }
            for (int table = 1; table < 256; table += 8) {
                answers.add(few.by(3, table, part));
            }
        }
    }

    private static void traceRelations(FewSigns few, List<Integer> answers) {
        for (int r = 1; r <= 3; r++) {
            answers.add(few.kept(r));
            for (int rows = 0; rows < 1 << (1 << r); rows += r) {
                answers.add(few.letting(r, rows));
                answers.add(few.around(r, rows));
            }
        }
    }

    private static void traceText(FewSigns few, List<Integer> answers) {
        traceFormulas(few, answers);
        answers.add(few.type('x', 1));
        answers.add(few.read(2));
        answers.add(few.type(')', 1));
        answers.add(few.read(2));
        answers.add(few.count(2));
        traceFormulas(few, answers);
        answers.add(few.clear());
        answers.add(few.read(2));
    }

    private static void traceFormulas(FewSigns few, List<Integer> answers) {
        for (int i = 0; i < 4; i++) {
            for (int what = 0; what < 8; what++) {
                answers.add(few.formula(i, what));
            }
            for (int j = 0; j < 4; j++) {
                for (int what = 0; what < 3; what++) {
                    answers.add(few.both(i, j, what));
                }
            }
            answers.add(few.leastened(i));
        }
    }

    private static void traceChanges(FewSigns few, List<Integer> answers) {
        answers.add(few.type(')', 1));
        answers.add(few.read(0));
        for (int i = 0; i < 7; i++) {
            answers.add(few.sign(i % 3, 1, 1));
            answers.add(few.reached(2));
            answers.add(few.kept(2));
        }
        for (int i = 0; i < 7; i++) {
            answers.add(few.drop());
            answers.add(few.formula(0, 0));
            answers.add(few.reached(2));
            answers.add(few.kept(2));
        }
        answers.add(few.count(2));
    }

    // ---- refused calls

    private void refused(int state, String name, int due, Call call) {
        for (int trace = 0; trace < TRACES; trace++) {
            FewSigns few = made(state);
            Due.is("state " + state + ": " + name, call.on(few), due);
            same("state " + state + ", trace " + trace + ", after " + name, traced(few, trace), twins[state][trace]);
        }
    }

    private void refusedInAll(String name, Call call) {
        for (int state = 0; state < STATES; state++) {
            refused(state, name, BAD, call);
        }
    }

    private static void same(String where, int[] got, int[] want) {
        Due.is(where + ": answers", got.length, want.length);
        for (int i = 0; i < Math.min(got.length, want.length); i++) {
            if (got[i] != want[i]) {
                Due.is(where + ": answer " + i, got[i], want[i]);
                return;
            }
        }
    }

    private void badSigns() {
        refusedInAll("sign(-1, 0, 1)", few -> few.sign(-1, 0, 1));
        refusedInAll("sign(4, 0, 1)", few -> few.sign(4, 0, 1));
        refusedInAll("sign(0, 2, 1)", few -> few.sign(0, 2, 1));
        refusedInAll("sign(3, 256, 1)", few -> few.sign(3, 256, 1));
        refusedInAll("sign(2, -1, 1)", few -> few.sign(2, -1, 1));
        refusedInAll("sign(2, 7, 0)", few -> few.sign(2, 7, 0));
        refusedInAll("sign(2, 7, 10)", few -> few.sign(2, 7, 10));
        refused(NEW, "drop()", BAD, few -> few.drop());
        refusedInAll("about(-1, 0)", few -> few.about(-1, 0));
        refusedInAll("about(6, 0)", few -> few.about(6, 0));
        refusedInAll("about(0, 4)", few -> few.about(0, 4));
        refused(SOME, "about(3, 0)", BAD, few -> few.about(3, 0));
        refusedInAll("keeps(4, 0)", few -> few.keeps(4, 0));
        refusedInAll("keeps(-1, 0)", few -> few.keeps(-1, 0));
        refusedInAll("keeps(2, 16)", few -> few.keeps(2, 16));
    }

    private void badSaying() {
        int[] noCount = {0, 4, -1, LOWEST, HIGHEST};
        for (int n : noCount) {
            refusedInAll("reached(" + n + ")", few -> few.reached(n));
            refusedInAll("least(" + n + ", 0)", few -> few.least(n, 0));
            refusedInAll("by(" + n + ", 0, 0)", few -> few.by(n, 0, 0));
            refusedInAll("farthest(" + n + ", 0)", few -> few.farthest(n, 0));
            refusedInAll("costing(" + n + ", 0)", few -> few.costing(n, 0));
        }
        refusedInAll("least(3, 256)", few -> few.least(3, 256));
        refusedInAll("least(1, 4)", few -> few.least(1, 4));
        refusedInAll("by(3, 256, -1)", few -> few.by(3, 256, -1));
        refusedInAll("by(3, 0, 3)", few -> few.by(3, 0, 3));
        refusedInAll("by(3, 0, -2)", few -> few.by(3, 0, -2));
        refusedInAll("farthest(3, 3)", few -> few.farthest(3, 3));
        refusedInAll("farthest(3, -1)", few -> few.farthest(3, -1));
        refusedInAll("costing(3, -1)", few -> few.costing(3, -1));
    }

    private void badFamilies() {
        refusedInAll("says(64)", few -> few.says(64));
        refusedInAll("says(-1)", few -> few.says(-1));
        refusedInAll("lacks(64)", few -> few.lacks(64));
        refusedInAll("lacks(-1)", few -> few.lacks(-1));
        refused(NEW, "says(1)", BAD, few -> few.says(1));
        refused(SOME, "says(8)", BAD, few -> few.says(8));
        refused(SOME, "lacks(8)", BAD, few -> few.lacks(8));
        refusedInAll("sets(-2)", few -> few.sets(-2));
        refusedInAll("alone(-2)", few -> few.alone(-2));
    }

    private void badRelations() {
        int[] noValues = {0, 4, -1, LOWEST, HIGHEST};
        for (int r : noValues) {
            refusedInAll("lets(0, " + r + ", 0)", few -> few.lets(0, r, 0));
            refusedInAll("letting(" + r + ", 0)", few -> few.letting(r, 0));
            refusedInAll("around(" + r + ", 0)", few -> few.around(r, 0));
            refusedInAll("sorts(" + r + ", 0)", few -> few.sorts(r, 0));
            refusedInAll("kept(" + r + ")", few -> few.kept(r));
        }
        refusedInAll("lets(6, 1, 0)", few -> few.lets(6, 1, 0));
        refusedInAll("lets(-1, 1, 0)", few -> few.lets(-1, 1, 0));
        refusedInAll("lets(0, 3, 256)", few -> few.lets(0, 3, 256));
        refusedInAll("letting(2, 16)", few -> few.letting(2, 16));
        refusedInAll("around(1, 4)", few -> few.around(1, 4));
        refusedInAll("sorts(3, -1)", few -> few.sorts(3, -1));
    }

    private void badFormulas() {
        refusedInAll("type(x, 0)", few -> few.type('x', 0));
        refusedInAll("type(x, 9)", few -> few.type('x', 9));
        refusedInAll("type(x, -1)", few -> few.type('x', -1));
        refusedInAll("read(4)", few -> few.read(4));
        refusedInAll("read(-1)", few -> few.read(-1));
        refusedInAll("formula(4, 0)", few -> few.formula(4, 0));
        refusedInAll("formula(0, 8)", few -> few.formula(0, 8));
        refusedInAll("leastened(4)", few -> few.leastened(4));
        refusedInAll("leastened(-1)", few -> few.leastened(-1));
        refusedInAll("both(4, 0, 0)", few -> few.both(4, 0, 0));
        refusedInAll("both(0, 4, 0)", few -> few.both(0, 4, 0));
        refusedInAll("both(0, 0, 3)", few -> few.both(0, 0, 3));
        refusedInAll("count(3)", few -> few.count(3));
        refusedInAll("count(-1)", few -> few.count(-1));
    }

    private void states() {
        refused(WIDE, "reached(3)", STATE, few -> few.reached(3));
        refused(WIDE, "least(3, 0)", STATE, few -> few.least(3, 0));
        refused(WIDE, "by(3, 0, 0)", STATE, few -> few.by(3, 0, 0));
        refused(WIDE, "farthest(3, 2)", STATE, few -> few.farthest(3, 2));
        refused(WIDE, "costing(3, 0)", STATE, few -> few.costing(3, 0));
        refused(WIDE, "leastened(0)", STATE, few -> few.leastened(0));
    }

    private void fulls() {
        for (int places = 0; places <= 3; places++) {
            int n = places;
            refused(WIDE, "sign(" + n + ", 1, 1)", FULL, few -> few.sign(n, 1, 1));
            refused(FILLED, "sign(" + n + ", 1, 1)", FULL, few -> few.sign(n, 1, 1));
        }
        for (int bytes = 1; bytes <= 8; bytes++) {
            int n = bytes;
            refused(WIDE, "type(-1, " + n + ")", FULL, few -> few.type(-1L, n));
            if (n > 1) {
                refused(FILLED, "type(-1, " + n + ")", FULL, few -> few.type(-1L, n));
            }
        }
    }

    private void faults() {
        for (int formula = 0; formula < 4; formula++) {
            int i = formula;
            refused(NEW, "read(" + i + ") of no text", -10, few -> few.read(i));
            refused(SOME, "read(" + i + ") of half a text", -14, few -> few.read(i));
            refused(FILLED, "read(" + i + ") of all but a byte", -89, few -> few.read(i));
        }
    }

    /** Not refused, but asking as well changes nothing: each trace of questions after each other. */
    private static void askingChangesNothing(RefusedTest test) {
        for (int state = 0; state < STATES; state++) {
            for (int asked = 0; asked < 4; asked++) {
                for (int trace = 0; trace < TRACES; trace++) {
                    FewSigns few = made(state);
                    traced(few, asked);
                    same("state " + state + ", trace " + trace + ", after trace " + asked,
                            traced(few, trace), test.twins[state][trace]);
                }
            }
        }
    }
}
