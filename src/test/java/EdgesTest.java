import java.lang.reflect.Method;
import java.util.Arrays;

/** Each call with every combination of numbers just within and just beyond its bounds, compared with PlainMasks. */
final class EdgesTest {
    private static final int LEAST = Integer.MIN_VALUE;
    private static final int MOST = Integer.MAX_VALUE;
    private static final int[] MASK = {LEAST, -1, 0, 3, 4, MOST};
    private static final int[] TO = {LEAST, -1, 2, 4, MOST};
    private static final int[] CELL = {LEAST, -1, 0, 7, 15, 16, MOST};
    private static final int[] SIZE = {LEAST, -1, 0, 1, 16, 17, MOST};
    private static final int[] MOVE = {LEAST, -17, -16, -1, 0, 1, 16, 17, MOST};
    private static final int[] UP_TO_3 = {LEAST, -1, 0, 1, 2, 3, 4, MOST};
    private static final int[] FORM = {LEAST, -1, 0, 1, 2, 3, MOST};
    private static final int[] ITEM = {LEAST, -1, 0, 1, 9, 10, 11, 59, 60, 61, MOST};
    private static final int[] VALUE = {LEAST, -129, -1, 0, 1, 2, 128, 32768, MOST};
    /** Of the 512 calls that an object is used for making ready takes 16, and each step two; the last is digest(). */
    private static final int CALLS = 512 - 16 - 2 - 1;
    private static final Check CHECK = new Check();

    private static QuarterMasks real = new QuarterMasks();
    private static PlainMasks plain = new PlainMasks();
    private static int calls = 0;
    private static int pairs = 0;

    public static void main(String[] args) throws ReflectiveOperationException {
        becoming();
        asking();
        sheets();
        CHECK.end("EdgesTest");
    }

    private static void becoming() throws ReflectiveOperationException {
        each("fill", MASK, CELL, CELL, SIZE, SIZE, new int[] {LEAST, -1, 0, 1, 2, MOST});
        each("dots", MASK, VALUE, new int[] {LEAST, -1, 0, 1, 255, 256, MOST});
        each("join", UP_TO_3, UP_TO_3, UP_TO_3, UP_TO_3);
        each("over", UP_TO_3, UP_TO_3);
        each("move", MASK, MOVE, MOVE, TO);
        each("turn", UP_TO_3, UP_TO_3, UP_TO_3);
        each("band", MASK, new int[] {LEAST, -1, 0, 1, 14, 15, 29, 30, 31, MOST}, TO);
        each("pick", MASK, CELL, CELL, TO);
        each("read", UP_TO_3, UP_TO_3);
        each("back");
    }

    private static void asking() throws ReflectiveOperationException {
        each("cell", UP_TO_3, CELL, CELL);
        each("block", UP_TO_3, CELL, CELL, UP_TO_3);
        each("blocks", UP_TO_3, UP_TO_3);
        each("shown", UP_TO_3, new int[] {LEAST, -3, -2, -1, 0, 1, 5, 40, 41, 220, 339, 340, 341, MOST});
        each("all", UP_TO_3, UP_TO_3);
        each("label", UP_TO_3, CELL, CELL);
        each("part", UP_TO_3, new int[] {LEAST, -1, 0, 1, 4, 5, 25, 127, 128, MOST},
            new int[] {LEAST, -1, 0, 1, 2, 3, 4, 5, 6, MOST});
        each("near", UP_TO_3, CELL, CELL);
        each("both", UP_TO_3, UP_TO_3, UP_TO_3);
        each("count", new int[] {LEAST, -1, 0, 1, 2, 3, 4, 5, 6, 7, 8, 9, MOST});
    }

    private static void sheets() throws ReflectiveOperationException {
        each("sheet", UP_TO_3, FORM, ITEM);
        each("lose", UP_TO_3);
        each("lay", UP_TO_3, FORM, ITEM, VALUE);
        each("get", UP_TO_3, FORM, ITEM);
        each("copy", UP_TO_3, ITEM, UP_TO_3, ITEM, ITEM);
        each("write", UP_TO_3, new int[] {LEAST, -1, 0, 1, 4, 5, 100, 339, 340, 341, MOST}, UP_TO_3);
    }

    /** All combinations of the numbers, one after the other, with a new pair of objects when its calls end. */
    private static void each(String name, int[]... numbers) throws ReflectiveOperationException {
        int[] at = new int[numbers.length];
        newPair();
        do {
            if (calls >= CALLS) {
                CHECK.due(name + ": digest()", real.digest(), plain.digest());
                newPair();
            }
            Integer[] args = new Integer[numbers.length];
            for (int i = 0; i < args.length; i++) args[i] = numbers[i][at[i]];
            both(name, args);
            both("count", 8);
        } while (next(at, numbers) && !CHECK.hasWrong());
        CHECK.due(name + ": digest()", real.digest(), plain.digest());
    }

    private static boolean next(int[] at, int[][] numbers) {
        for (int i = 0; i < at.length; i++) {
            at[i]++;
            if (at[i] < numbers[i].length) return true;
            at[i] = 0;
        }
        return false;
    }

    /** Masks of few and of many parts, one light; sheets of 10 bytes that tell a mask, 60 shorts and 0 ints, one lost. */
    private static void newPair() throws ReflectiveOperationException {
        real = new QuarterMasks();
        plain = new PlainMasks();
        calls = 0;
        pairs++;
        both("dots", 0, pairs, 5);
        both("fill", 1, 1, 1, 14, 13, 1);
        both("dots", 3, pairs, 255);
        both("sheet", 0, 0, 10);
        int[] signs = {2, 1, 2, 0, 1, 1, 1, 0, 0, 7};
        for (int i = 0; i < 10; i++) both("lay", 0, 0, i, signs[i]);
        both("sheet", 1, 1, 60);
        both("sheet", 2, 2, 0);
        calls = 0;
    }

    private static void both(String name, Integer... args) throws ReflectiveOperationException {
        Class<?>[] types = new Class<?>[args.length];
        Arrays.fill(types, int.class);
        Method onReal = QuarterMasks.class.getMethod(name, types);
        Method onPlain = PlainMasks.class.getDeclaredMethod(name, types);
        int got = (Integer) onReal.invoke(real, (Object[]) args);
        int want = (Integer) onPlain.invoke(plain, (Object[]) args);
        calls++;
        CHECK.due(got == want ? name : name + Arrays.toString(args), got, want);
    }
}
