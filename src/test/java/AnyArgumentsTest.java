import java.lang.management.ManagementFactory;
import java.util.Random;

/** Whatever the arguments, no call throws, refused calls change nothing, and calls make no objects. */
public final class AnyArgumentsTest {
    private static final int[] EDGES = {
        Integer.MIN_VALUE, Integer.MIN_VALUE + 1, -65536, -257, -256, -33, -32, -31, -10, -9, -3, -2, -1, 0, 1, 2, 3,
        4, 5, 6, 7, 8, 9, 10, 15, 16, 31, 32, 33, 63, 64, 65, 80, 81, 127, 128, 255, 256, 257, 65535, 65536,
        Integer.MAX_VALUE - 1, Integer.MAX_VALUE,
    };
    private static final long[] SOME_TEXTS = {0x7028782929L, 0x782C79L, 0x70287028L, 0x79L, -1L, 0L, 0x7128L};

    private static long sum = 0;

    public static void main(String[] args) {
        edges();
        wandering();
        room();
        Due.end("AnyArgumentsTest");
    }

    private static void edges() {
        int[][] signs = {{}, {2}, {3, 0, 1, 2, 3, 3}, {0, 0, 0, 0, 0, 0}, {2, 2, 1, 0, 2, 1}};
        for (int[] places : signs) {
            for (int a : EDGES) {
                for (int b : EDGES) {
                    askAll(places, a, b);
                }
            }
        }
        Due.holds("some answers came", sum != 0);
    }

    /** A new object for each two numbers, so that it stays within its 512 calls. */
    private static void askAll(int[] places, int a, int b) {
        FewSigns few = new FewSigns();
        for (int i = 0; i < places.length; i++) {
            few.sign(places[i], i % (1 << (1 << places[i])), 1 + i);
        }
        String before = state(few);
        callOne(few, a);
        callTwo(few, a, b);
        for (int c : EDGES) {
            callThree(few, a, b, c);
        }
        Due.holds("asking " + a + ", " + b + " changes nothing", before.equals(state(few)));
    }

    private static void callOne(FewSigns few, int a) {
        sum += few.reached(a) + few.says(a) + few.lacks(a) + few.sets(a) + few.alone(a) + few.kept(a)
                + few.read(a) + few.leastened(a) + few.count(a);
    }

    private static void callTwo(FewSigns few, int a, int b) {
        sum += few.about(a, b) + few.keeps(a, b) + few.least(a, b) + few.farthest(a, b) + few.costing(a, b)
                + few.letting(a, b) + few.around(a, b) + few.sorts(a, b) + few.formula(a, b);
        sum += b < 1 || b > 8 ? few.type(a, b) : 0;
    }

    private static void callThree(FewSigns few, int a, int b, int c) {
        sum += few.by(a, b, c) + few.lets(a, b, c) + few.both(a, b, c);
        boolean wrong = a < 0 || a > 3 || b < 0 || b >= 1 << (1 << a) || c < 1 || c > 9;
        sum += wrong ? few.sign(a, b, c) : 0;
    }

    private static String state(FewSigns few) {
        StringBuilder state = new StringBuilder();
        for (int i = 0; i < 6; i++) {
            for (int what = 0; what < 8; what++) {
                state.append(few.about(i, what)).append(' ').append(few.formula(i, what)).append(' ');
            }
        }
        return state.append(few.count(0)).append(' ').append(few.count(1)).append(' ').append(few.count(2)).toString();
    }

    private static int any(Random random) {
        return random.nextInt(3) > 0 ? random.nextInt(10) - 1 : EDGES[random.nextInt(EDGES.length)];
    }

    private static void wandering() {
        Random random = new Random(7);
        for (int run = 0; run < 600; run++) {
            FewSigns few = new FewSigns();
            // A step makes ten calls at most, and three more look at the counts.
            for (int step = 0; step < (Due.MOST_CALLS - 3) / 10; step++) {
                wander(few, random);
            }
            int signs = few.count(0);
            int ofThree = few.count(1);
            int bytes = few.count(2);
            Due.holds("counts stay in their bounds", signs >= 0 && signs <= 6 && ofThree >= 0 && ofThree <= signs
                    && bytes >= 0 && bytes <= 80);
        }
    }

    private static void wander(FewSigns few, Random random) {
        int a = any(random);
        int b = any(random);
        int c = any(random);
        switch (random.nextInt(12)) {
            case 0: case 1: sum += few.sign(a, b, c); break;
            case 2: sum += few.drop(); break;
            case 3: case 4: sum += few.type(SOME_TEXTS[random.nextInt(SOME_TEXTS.length)], a); break;
            case 5: case 6: sum += few.type(random.nextLong(), a); break;
            case 7: sum += few.read(a); break;
            case 8: sum += random.nextInt(4) == 0 ? few.clear() : 0; break;
            case 9: callOne(few, a); break;
            case 10: callTwo(few, a, b); break;
            default: callThree(few, a, b, c); break;
        }
    }

    /** All calls of a run live in one room: an object makes its rows once, and its calls make none. */
    private static void room() {
        com.sun.management.ThreadMXBean bean =
                (com.sun.management.ThreadMXBean) ManagementFactory.getThreadMXBean();
        long thread = Thread.currentThread().getId();
        FewSigns warm = new FewSigns();
        calls(warm);
        long start = bean.getThreadAllocatedBytes(thread);
        FewSigns few = new FewSigns();
        long made = bean.getThreadAllocatedBytes(thread);
        calls(few);
        long used = bean.getThreadAllocatedBytes(thread);
        Due.holds("a new object is small: " + (made - start), made - start < 16_000);
        Due.holds("calls make nothing: " + (used - made), used - made < 2_000);
    }

    private static void calls(FewSigns few) {
        for (int turn = 0; turn < 6; turn++) {
            few.sign(2, 7, 1 + turn % 9);
            few.sign(1, 1, 1);
            few.sign(0, 1, 2);
            for (int n = 1; n <= 3; n++) {
                callOne(few, n);
                callTwo(few, n, 3);
                callThree(few, n, 3, 0);
            }
            few.type(0x7028782C7929L, 6);
            few.read(0);
            few.clear();
            few.drop();
            few.drop();
            few.drop();
        }
    }
}
