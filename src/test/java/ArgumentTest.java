import java.lang.reflect.InvocationTargetException;
import java.lang.reflect.Method;
import java.lang.reflect.Modifier;
import java.util.ArrayList;
import java.util.Arrays;
import java.util.List;

/**
 * Each call with arguments far and near, in an empty, a small and a full holt: it throws nothing but what its head
 * names, by a throw of the class's own; and when it throws, nothing is changed.
 */
final class ArgumentTest {
    private static final int[] NUMBERS = {Integer.MIN_VALUE, Integer.MIN_VALUE + 1, -10000, -61, -2, -1, 0, 1, 2, 3, 4, 5, 6, 7, 8,
        9, 10, 11, 12, 13, 24, 25, 60, 61, 99, 100, 255, 256, 400, 999, 1000, 9999, 10000, 65536, 1 << 30, Integer.MAX_VALUE - 1,
        Integer.MAX_VALUE};
    private static final int[] FEW_NUMBERS = {Integer.MIN_VALUE, -1, 0, 1, 4, 5, 6, 23, 24, Integer.MAX_VALUE};
    private static final int[] ENDS = {Integer.MIN_VALUE, -1, 1734437990, Integer.MAX_VALUE};
    private static final String[] TAPES = {"", "\u0001\u0048\u0001", "\u0001\u0001\u0063\u0000", "till 7", "grow 9 if not wet",
        "order 0 9", "\u00ff\u0000;"};
    private static final int STATES = 3;

    public static void main(String[] args) throws IllegalAccessException {
        Kit.part("arguments");
        int calls = 0;
        for (Method method : OsierHolt.class.getDeclaredMethods()) {
            if (Modifier.isPublic(method.getModifiers())) {
                for (Object[] arguments : allArguments(method)) {
                    calls += tryAll(method, arguments);
                }
            }
        }
        Kit.is("most calls were tried", calls > 10000, true);
        Kit.close();
    }

    private static boolean readsTape(Method method) {
        return List.of("holt", "law", "pieces", "rod", "found", "look", "end", "feed").contains(method.getName());
    }

    private static int tryAll(Method method, Object[] arguments) throws IllegalAccessException {
        int calls = 0;
        for (int state = 0; state < STATES; state++) {
            for (int tape = 0; tape < (readsTape(method) ? TAPES.length : 1); tape++) {
                tryOne(method, arguments, state, TAPES[tape]);
                calls++;
            }
        }
        return calls;
    }

    private static void tryOne(Method method, Object[] arguments, int state, String tape) throws IllegalAccessException {
        OsierHolt x = holtOf(state);
        String before = Kit.state(x);
        Kit.feed(x, tape);
        try {
            method.invoke(x, arguments);
        } catch (InvocationTargetException e) {
            Throwable thrown = e.getCause();
            String call = method.getName() + Arrays.toString(arguments) + " in state " + state;
            Kit.is(call + " throws " + thrown + ", as its head says",
                Arrays.asList(method.getExceptionTypes()).contains(thrown.getClass()), true);
            StackTraceElement[] stood = thrown.getStackTrace();
            Kit.is(call + " throws by a throw of its own",
                stood.length > 0 && stood[0].getClassName().startsWith("OsierHolt"), true);
            Kit.is(call + " threw, and then all is", Kit.state(x), before);
        }
    }

    private static OsierHolt holtOf(int state) {
        OsierHolt x = new OsierHolt();
        if (state == 0) {
            return x;
        }
        String bed = Kit.bed("almond", 9, 99, 5);
        String basket = Kit.basket(24, 20, "4 4 4 4 4 4", 1, 99);
        if (state == 1) {
            Kit.holt(x, bed + ";" + basket + ";" + Kit.hand(1, 99) + "; order 0 1; rods 1 5; flood 50");
            return x;
        }
        Kit.holt(x, Kit.lines(6, bed));
        Kit.holt(x, Kit.lines(5, basket));
        Kit.holt(x, Kit.lines(5, Kit.hand(9, 0)) + ";" + Kit.lines(6, "order 4 9") + "; rods 1 999; till 999");
        for (int text = 3; text < 12; text++) {
            Kit.holt(x, "flood 100; year 999");
        }
        Kit.law(x, "dear 99 if till > 999; rot 99 if bed > 3");
        x.seed(Integer.MIN_VALUE);
        for (int act = 0; act < 13; act++) {
            x.years(act == 0 ? 60 : 1);
        }
        x.image();
        return x;
    }

    private static List<Object[]> allArguments(Method method) {
        Class<?>[] types = method.getParameterTypes();
        List<Object[]> all = new ArrayList<>();
        all.add(new Object[types.length]);
        for (int i = 0; i < types.length; i++) {
            List<Object[]> longer = new ArrayList<>();
            for (Object[] one : all) {
                for (Object value : values(types[i], types.length)) {
                    Object[] next = one.clone();
                    next[i] = value;
                    longer.add(next);
                }
            }
            all = longer;
        }
        return all;
    }

    private static List<Object> values(Class<?> type, int parameters) {
        if (type == boolean.class) {
            return List.of(false, true);
        }
        int[] numbers = parameters > 3 ? ENDS : parameters > 2 ? FEW_NUMBERS : NUMBERS;
        List<Object> values = new ArrayList<>();
        for (int number : numbers) {
            values.add(number);
        }
        return values;
    }
}
