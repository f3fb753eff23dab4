import java.lang.reflect.InvocationTargetException;
import java.lang.reflect.Method;
import java.lang.reflect.Modifier;
import java.util.Arrays;
import java.util.List;
import java.util.function.Supplier;

/**
 * Calls every method with arguments of every kind; what is refused must leave all as it was, and
 * so must what only tells something.
 */
final class Refusals {
    private static final int[] VALUES = {
        Integer.MIN_VALUE, -32, -5, -1, 0, 1, 2, 3, 4, 5, 8, 9, 13, 14, 15, 16, 32, 51, 1 << 14,
        Integer.MAX_VALUE,
    };
    // For calls with three arguments, which are many.
    private static final int[] FEW = {-1, 0, 1, 2, 4, 14, 1 << 14};
    private static final List<String> TELLING = List.of("place", "wins", "winningChoice", "measure",
            "rounds", "forced", "rank", "trap", "judged", "badRings", "pivots", "weakArrows",
            "token", "count");
    private static final char[] SIGNS = {0, '0', ';', 255, 65535};

    private Refusals() {
    }

    static void all(Supplier<RingGames> made) {
        String before = Told.whole(made);
        for (Method method : RingGames.class.getDeclaredMethods()) {
            if (Modifier.isPublic(method.getModifiers())) {
                Object[] values = new Object[method.getParameterCount()];
                calls(made, before, method, values, 0);
            }
        }
    }

    private static void calls(Supplier<RingGames> made, String before, Method method,
            Object[] values, int index) {
        if (index == values.length) {
            call(made, before, method, values);
        } else if (method.getParameterTypes()[index] == char.class) {
            for (char sign : SIGNS) {
                values[index] = sign;
                calls(made, before, method, values, index + 1);
            }
        } else {
            for (int value : values.length < 3 ? VALUES : FEW) {
                values[index] = value;
                calls(made, before, method, values, index + 1);
            }
        }
    }

    private static void call(
            Supplier<RingGames> made, String before, Method method, Object[] values) {
        boolean telling = TELLING.contains(method.getName());
        if (answer(made.get(), method, values) < 0 || telling) {
            Doc.same(method.getName() + Arrays.toString(values), Told.whole(() -> {
                RingGames x = made.get();
                answer(x, method, values);
                return x;
            }), before);
        }
    }

    private static int answer(RingGames x, Method method, Object[] values) {
        try {
            return (int) method.invoke(x, values);
        } catch (IllegalAccessException | InvocationTargetException thrown) {
            throw new IllegalStateException(method.getName(), thrown);
        }
    }
}
