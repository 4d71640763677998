import java.lang.reflect.InvocationTargetException;
import java.lang.reflect.Method;
import java.lang.reflect.Modifier;
import java.util.Arrays;
import java.util.Comparator;

/** A test class with one method for each sentence of the document: all are run, so none is forgotten. */
final class Sentences {
    private Sentences() {
    }

    /** Runs each static method without parameters that answers nothing; one that asks nothing is wrong. */
    static void runAll(Class<?> tests, Due due) {
        Method[] methods = tests.getDeclaredMethods();
        Arrays.sort(methods, Comparator.comparing(Method::getName));
        for (Method m : methods) {
            if (Modifier.isStatic(m.getModifiers()) && m.getParameterCount() == 0 && m.getReturnType() == void.class
                && !m.isSynthetic()) {
                run(m, due);
            }
        }
        due.end();
    }

    private static void run(Method m, Due due) {
        int before = due.asked();
        due.sentence(m.getName());
        try {
            m.setAccessible(true);
            m.invoke(null);
        } catch (IllegalAccessException | InvocationTargetException e) {
            due.holds(m.getName() + " ends without " + e.getCause(), false);
        }
        due.holds(m.getName() + " asks something", due.asked() > before);
    }
}
