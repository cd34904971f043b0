import java.lang.reflect.InvocationTargetException;
import java.lang.reflect.Method;
import java.util.ArrayList;
import java.util.List;
import java.util.regex.Matcher;
import java.util.regex.Pattern;

/** Runs the tests of a class that stand for a sentence each, and looks whether the document says it there. */
final class Sentences {
    private static final Pattern NAME = Pattern.compile("((part|promise)\\d+)[A-Z]\\w*");

    private Sentences() {
    }

    static List<Method> tests(Class<?> of) {
        List<Method> tests = new ArrayList<>();
        for (Method method : of.getDeclaredMethods()) {
            if (method.isAnnotationPresent(Sentence.class)) {
                tests.add(method);
            }
        }
        return tests;
    }

    /** Where the document says it, by the test's name: "part4Water" is part 4. */
    static String section(Method test) {
        Matcher matcher = NAME.matcher(test.getName());
        return matcher.matches() ? matcher.group(1) : "none";
    }

    static void run(Class<?> of) {
        Document document = new Document();
        for (Method test : tests(of)) {
            for (String sentence : test.getAnnotation(Sentence.class).value()) {
                if (!document.holds(section(test), sentence)) {
                    Checks.fault(test.getName() + ": its section of the document does not say: " + sentence);
                }
            }
            invoke(test);
        }
        Checks.end(of.getName());
    }

    private static void invoke(Method test) {
        Checks.begin(test.getName());
        try {
            test.setAccessible(true);
            test.invoke(null);
        } catch (InvocationTargetException thrown) {
            Checks.fault("threw " + thrown.getCause());
        } catch (IllegalAccessException thrown) {
            Checks.fault("can not be run");
        }
        Checks.begin("");
    }
}
