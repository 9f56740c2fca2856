import java.lang.reflect.InvocationTargetException;
import java.lang.reflect.Method;
import java.lang.reflect.Modifier;
import java.util.Arrays;
import java.util.Comparator;

/** Runs every test of the project: each static method without arguments of the test classes. */
public final class AllTests {
    static final Class<?>[] CLASSES = {ChangesTest.class, SearchTest.class, TextTest.class, AccountsTest.class,
        TermsEdges.class, ChangesEdges.class, SearchEdges.class, TextEdges.class, AccountsEdges.class,
        FaultTest.class, DocumentTest.class, ModelTest.class, ReadmeTest.class, FaceTest.class};

    private AllTests() {
    }

    private static boolean passes(Method test) {
        int before = Check.faults();
        try {
            test.setAccessible(true);
            test.invoke(null);
        } catch (InvocationTargetException e) {
            e.getCause().printStackTrace(System.out);
            return false;
        } catch (IllegalAccessException e) {
            throw new AssertionError(e);
        }
        return Check.faults() == before;
    }

    private static boolean isTest(Method method) {
        int modifiers = method.getModifiers();
        return Modifier.isStatic(modifiers) && !Modifier.isPrivate(modifiers) && !method.isSynthetic()
                && method.getParameterCount() == 0;
    }

    public static void main(String[] arguments) {
        int passed = 0;
        int failed = 0;
        boolean[] tested = new boolean[44];
        for (Class<?> each : CLASSES) {
            Method[] methods = each.getDeclaredMethods();
            Arrays.sort(methods, Comparator.comparing(Method::getName));
            for (Method test : methods) {
                if (!isTest(test)) {
                    continue;
                }
                if (test.getName().startsWith("promise")) {
                    tested[Integer.parseInt(test.getName().substring(7, 9))] = true;
                }
                if (passes(test)) {
                    passed++;
                } else {
                    failed++;
                    System.out.println("FAILED " + each.getName() + "." + test.getName());
                }
            }
        }
        for (int promise = 1; promise < tested.length; promise++) {
            if (!tested[promise]) {
                failed++;
                System.out.println("FAILED no test of promise " + promise);
            }
        }
        System.out.println(passed + " passed, " + failed + " failed");
        if (failed != 0) {
            System.exit(1);
        }
    }
}
