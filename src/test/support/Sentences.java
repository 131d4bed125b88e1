import java.lang.reflect.InvocationTargetException;
import java.lang.reflect.Method;
import java.util.Map;
import java.util.TreeMap;

/** Runs the tests of sentences. */
final class Sentences {
    private Sentences() {
    }

    /** Runs each method of a class under which a sentence stands; what does not hold is printed with the sentence. */
    static void run(Class<?> tests, Check check) {
        for (Method test : byName(tests).values()) {
            Sentence sentence = test.getAnnotation(Sentence.class);
            check.about(sentence.of() + " (" + test.getName() + ") \"" + sentence.says() + "\": ");
            int before = check.checks();
            runOne(test, check);
            if (check.checks() == before) {
                check.fail("nothing was asked");
            }
        }
        check.about("");
        check.finish();
    }

    private static Map<String, Method> byName(Class<?> tests) {
        Map<String, Method> byName = new TreeMap<>();
        for (Method method : tests.getDeclaredMethods()) {
            if (method.isAnnotationPresent(Sentence.class)) {
                byName.put(method.getName(), method);
            }
        }
        return byName;
    }

    private static void runOne(Method test, Check check) {
        try {
            test.invoke(null);
        } catch (InvocationTargetException thrown) {
            check.fail("the test ended with " + thrown.getCause());
        } catch (IllegalAccessException thrown) {
            check.fail("the test can't be run: " + thrown);
        }
    }
}
