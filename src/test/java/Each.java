import java.lang.reflect.InvocationTargetException;
import java.lang.reflect.Method;
import java.lang.reflect.Modifier;
import java.util.Arrays;
import java.util.Comparator;

/** Runs every test of a class, each by its own name: so none is forgotten, and the name tells what is broken. */
final class Each {
    private Each() {
    }

    static void of(Class<?> tests) throws IllegalAccessException {
        Method[] methods = tests.getDeclaredMethods();
        Arrays.sort(methods, Comparator.comparing(Method::getName));
        int ran = 0;
        int failed = 0;
        for (Method method : methods) {
            if (isTest(method)) {
                ran++;
                failed += holds(method) ? 0 : 1;
            }
        }
        System.out.println(tests.getName() + ": " + ran + " tests, " + failed + " of them failed");
        if (ran == 0) {
            Due.fails("there was no test");
        }
        Due.end();
    }

    private static boolean isTest(Method method) {
        return Modifier.isStatic(method.getModifiers()) && method.getParameterCount() == 0
                && method.getReturnType() == void.class && !method.isSynthetic();
    }

    private static boolean holds(Method method) throws IllegalAccessException {
        int before = Due.wrong();
        method.setAccessible(true);
        try {
            method.invoke(null);
        } catch (InvocationTargetException e) {
            Due.fails(method.getName() + " was ended by " + e.getCause());
        }
        if (Due.wrong() != before) {
            System.out.println("broken: " + method.getName());
        }
        return Due.wrong() == before;
    }
}
