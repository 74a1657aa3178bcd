import java.lang.reflect.InvocationTargetException;
import java.lang.reflect.Method;
import java.util.Arrays;
import java.util.Comparator;

/** Runs every test of the test classes: their methods named promise.. or rule..; the arguments are counts to add to. */
public final class AllTests {
    private static final Class<?>[] TESTS = {
        ReelsTest.class, TextTest.class, ShowTest.class, BreakTest.class, ForecastTest.class, SlotsTest.class,
        ReelBoundsTest.class, TextBoundsTest.class, ShowBoundsTest.class, TickBoundsTest.class, ForecastBoundsTest.class,
        RefusalTest.class, ReadmeTest.class, LanguageTest.class, RandomRunsTest.class,
    };

    public static void main(String[] arguments) throws IllegalAccessException {
        int passed = arguments.length > 0 ? Integer.parseInt(arguments[0]) : 0;
        int failed = arguments.length > 1 ? Integer.parseInt(arguments[1]) : 0;
        for (Class<?> test : TESTS) {
            Method[] methods = test.getDeclaredMethods();
            Arrays.sort(methods, Comparator.comparing(Method::getName));
            for (Method method : methods) {
                if (!isTest(method)) {
                    continue;
                }
                if (passes(method)) {
                    passed++;
                } else {
                    failed++;
                }
            }
        }
        System.out.println(passed + " passed, " + failed + " failed");
        if (failed > 0) {
            System.exit(1);
        }
    }

    private static boolean isTest(Method method) {
        String name = method.getName();
        return method.getParameterCount() == 0 && (name.startsWith("promise") || name.startsWith("rule"));
    }

    private static boolean passes(Method method) throws IllegalAccessException {
        try {
            method.setAccessible(true);
            method.invoke(null);
            return true;
        } catch (InvocationTargetException e) {
            System.out.println("FAILED: " + method.getDeclaringClass().getName() + "." + method.getName()
                + ": " + e.getCause());
            return false;
        }
    }
}
