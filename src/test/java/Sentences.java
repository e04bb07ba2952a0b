import java.lang.reflect.Method;
import java.util.Arrays;
import java.util.Comparator;

/** Runs a class of tests, each of which is about one sentence of the document. */
final class Sentences {
    private Sentences() {
    }

    /** Runs every method that has a Sentence, so that none can be forgotten, and ends the program. */
    static void testAll(Class<?> tests) throws ReflectiveOperationException {
        Method[] methods = tests.getDeclaredMethods();
        Arrays.sort(methods, Comparator.comparing(Method::getName));
        for (Method method : methods) {
            Sentence sentence = method.getAnnotation(Sentence.class);
            if (sentence != null) {
                Checks.about(method.getName() + " \"" + sentence.value() + "\"");
                method.setAccessible(true);
                method.invoke(null);
                Checks.endAbout();
            }
        }
        Checks.end(tests.getName());
    }
}
