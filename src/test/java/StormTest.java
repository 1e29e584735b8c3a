import java.lang.reflect.InvocationTargetException;
import java.lang.reflect.Method;
import java.lang.reflect.Modifier;
import java.util.ArrayList;
import java.util.Comparator;
import java.util.List;

/** Calls of all kinds with arguments of all kinds: nothing may be thrown but what the method names, and by the class itself. */
public final class StormTest {
    private static final Check CHECK = new Check("StormTest");
    private static final int OBJECTS = 60;
    private static final int CALLS = 3000;
    private static final int[] UTMOST = {Integer.MIN_VALUE, Integer.MIN_VALUE + 1, -101, -1, 0, 1, 61, 99, 100, 1160,
        1200, Integer.MAX_VALUE - 1, Integer.MAX_VALUE};
    private static long seed = 42;

    private static int below(int n) {
        seed = seed * 6364136223846793005L + 1442695040888963407L;
        return (int) ((seed >>> 33) % n);
    }

    private static Object argument(Class<?> type) {
        if (type == boolean.class) {
            return below(2) == 0;
        }
        int kind = below(20);
        if (kind == 0) {
            return UTMOST[below(UTMOST.length)];
        }
        if (kind < 5) {
            return 100 * below(12) + below(62);
        }
        return below(kind < 12 ? 6 : 40);
    }

    private static void call(FareLattice x, Method method) throws IllegalAccessException {
        Object[] arguments = new Object[method.getParameterCount()];
        for (int i = 0; i < arguments.length; i++) {
            arguments[i] = argument(method.getParameterTypes()[i]);
        }
        try {
            method.invoke(x, arguments);
            CHECK.isTrue("answered", true);
        } catch (InvocationTargetException e) {
            Throwable thrown = e.getCause();
            StackTraceElement[] trace = thrown.getStackTrace();
            boolean isNamed = List.of(method.getExceptionTypes()).contains(thrown.getClass());
            boolean isOurs = trace.length > 0 && trace[0].getClassName().startsWith("FareLattice");
            CHECK.isTrue(method.getName() + List.of(arguments) + " throws " + thrown, isNamed && isOurs);
        }
    }

    public static void main(String[] args) throws IllegalAccessException {
        List<Method> methods = new ArrayList<>();
        for (Method method : FareLattice.class.getDeclaredMethods()) {
            if (Modifier.isPublic(method.getModifiers())) {
                methods.add(method);
            }
        }
        methods.sort(Comparator.comparing(Method::getName));
        for (int i = 0; i < OBJECTS; i++) {
            FareLattice x = new FareLattice();
            for (int k = 0; k < CALLS; k++) {
                call(x, methods.get(below(methods.size())));
            }
        }
        CHECK.close();
    }
}
