import java.lang.reflect.InvocationTargetException;
import java.lang.reflect.Method;
import java.lang.reflect.Modifier;
import java.util.Arrays;
import java.util.Comparator;

/**
 * Runs every case of a test class, so that none can be forgotten: its static methods without parameters that are not
 * private. A case fails by what it throws; the class's name tells the promise, the method's name the case.
 */
final class Cases {
    private final String test;
    private int done;
    private int failed;

    private Cases(String test) {
        this.test = test;
    }

    static void run(Class<?> test) {
        Cases cases = new Cases(test.getSimpleName());
        Method[] methods = test.getDeclaredMethods();
        Arrays.sort(methods, Comparator.comparing(Method::getName));
        for (Method method : methods) {
            if (isCase(method)) {
                cases.run(method);
            }
        }
        cases.finish();
    }

    private static boolean isCase(Method method) {
        int modifiers = method.getModifiers();
        return Modifier.isStatic(modifiers) && !Modifier.isPrivate(modifiers) && method.getParameterCount() == 0;
    }

    private void run(Method method) {
        done++;
        try {
            method.invoke(null);
        } catch (InvocationTargetException e) {
            tell(method, e.getCause());
        } catch (IllegalAccessException e) {
            tell(method, e);
        }
    }

    private void tell(Method method, Throwable why) {
        failed++;
        System.out.println(test + "." + method.getName() + ": " + why.getMessage());
        if (!(why instanceof AssertionError)) {
            why.printStackTrace(System.out);
        }
    }

    private void finish() {
        System.out.println(test + ": " + done + " cases, " + failed + " failed");
        if (failed != 0 || done == 0) {
            System.exit(1);
        }
    }
}
