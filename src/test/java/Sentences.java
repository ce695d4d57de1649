import java.lang.reflect.InvocationTargetException;
import java.lang.reflect.Method;
import java.util.Arrays;
import java.util.Comparator;

/** Runs each test of a class that names the document's words, and tells them with what is not as due. */
final class Sentences {
    private Sentences() {
    }

    static void run(Class<?> tests) {
        Method[] methods = tests.getDeclaredMethods();
        Arrays.sort(methods, Comparator.comparing(Method::getName));
        int ran = 0;
        for (Method test : methods) {
            Says says = test.getAnnotation(Says.class);
            if (says != null) {
                run(test, says);
                ran++;
            }
        }
        System.out.println(ran + " tests, each for words of the document");
        Check.due("there are tests", true, ran > 0);
        Check.end();
    }

    private static void run(Method test, Says says) {
        Check.within(test.getName() + " (" + says.where() + ": \"" + says.words() + "\"): ");
        try {
            test.invoke(null);
        } catch (InvocationTargetException e) {
            Check.due("the test itself", "ends", e.getCause());
        } catch (IllegalAccessException e) {
            Check.due("the test itself", "can be called", e);
        }
        Check.within("");
    }
}
