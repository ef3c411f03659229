import java.lang.reflect.InvocationTargetException;
import java.lang.reflect.Method;
import java.util.ArrayList;
import java.util.List;

/** Calls by name, and their answers as texts. */
public final class Ask {
    private Ask() {
    }

    /** What a call answers; of an exception: throws. and its name. */
    public static String of(Object asked, Method method, Object... arguments) {
        try {
            Object answer = method.invoke(asked, arguments);
            return String.valueOf(answer);
        } catch (InvocationTargetException e) {
            return "throws." + e.getCause().getClass().getSimpleName();
        } catch (IllegalAccessException e) {
            throw new AssertionError(e);
        }
    }

    /** Texts of numbers (or true, false) as arguments of a method. */
    public static String of(Object asked, String name, long... numbers) {
        Method method = method(asked.getClass(), name);
        Class<?>[] types = method.getParameterTypes();
        Object[] arguments = new Object[types.length];
        for (int i = 0; i < types.length; i++) {
            arguments[i] = types[i] == boolean.class ? (Object) (numbers[i] != 0)
                : types[i] == long.class ? (Object) numbers[i] : (Object) (int) numbers[i];
        }
        return of(asked, method, arguments);
    }

    public static Method method(Class<?> type, String name) {
        for (Method method : type.getDeclaredMethods()) {
            if (method.getName().equals(name)) {
                return method;
            }
        }
        throw new AssertionError(name);
    }

    /** The calls of feed and end that put a text on an empty tape. */
    public static List<long[]> feeds(String text) {
        List<long[]> calls = new ArrayList<>();
        for (int from = 0; from < text.length(); from += 20) {
            long[] numbers = new long[5];
            for (int i = 0; i < 20; i++) {
                int sign = from + i < text.length() ? text.charAt(from + i) : 0;
                numbers[i / 4] = numbers[i / 4] << 8 | sign;
            }
            for (int i = 0; i < 5; i++) {
                numbers[i] = (int) numbers[i];
            }
            calls.add(numbers);
        }
        return calls;
    }

    public static void put(Object asked, String text) {
        for (long[] numbers : feeds(text)) {
            of(asked, "feed", numbers);
        }
        of(asked, "end", text.length());
    }
}
