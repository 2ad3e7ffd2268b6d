import java.lang.reflect.InvocationTargetException;
import java.lang.reflect.Method;
import java.util.Arrays;
import java.util.Comparator;

/** Runs each static method without arguments of the test classes; ends with exit code 1 if one fails. */
public final class AllTests {
    private static final Class<?>[] CLASSES = {
        FaceTest.class, PromiseTest.class, TermsTest.class, BoundaryTest.class, RefusedTest.class, OracleTest.class,
        ReadmeTest.class,
    };

    public static void main(String[] args) throws IllegalAccessException {
        int passed = 0;
        int failed = 0;
        for (Class<?> tests : CLASSES) {
            Method[] methods = tests.getDeclaredMethods();
            Arrays.sort(methods, Comparator.comparing(Method::getName));
            for (Method test : methods) {
                if (test.isSynthetic() || test.getParameterCount() != 0 || test.getReturnType() != void.class) {
                    continue;
                }
                try {
                    test.invoke(null);
                    passed++;
                } catch (InvocationTargetException e) {
                    failed++;
                    System.out.println(tests.getName() + "." + test.getName() + ": " + e.getCause());
                }
            }
        }
        System.out.println(passed + " passed, " + failed + " failed");
        if (failed != 0 || passed == 0) {
            System.exit(1);
        }
    }
}
