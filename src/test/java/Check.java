import java.lang.reflect.InvocationTargetException;
import java.lang.reflect.Method;
import java.util.ArrayList;
import java.util.Comparator;
import java.util.List;

/** What the project's own tests share: running them one by one, and counting wrong answers. */
final class Check {
    private static final long MILLISECONDS = 600_000;
    private static int wrong = 0;
    private static int asked = 0;

    private Check() {
    }

    static void due(String what, Object got, Object want) {
        asked++;
        if (!got.equals(want)) {
            wrong++;
            System.out.println(what + ": answered " + got + ", due is " + want);
        }
    }

    static List<Method> sentenceTests(Class<?> tests) {
        List<Method> found = new ArrayList<>();
        for (Method method : tests.getDeclaredMethods()) {
            if (method.isAnnotationPresent(Sentence.class)) {
                found.add(method);
            }
        }
        found.sort(Comparator.comparing(Method::getName));
        return found;
    }

    /** Runs each test of a class that stands for a sentence, and ends. */
    static void sentences(Class<?> tests) {
        watch();
        List<Method> found = sentenceTests(tests);
        int broken = 0;
        for (Method test : found) {
            int wrongBefore = wrong;
            int askedBefore = asked;
            call(test);
            due(test.getName() + " looks at an answer", asked > askedBefore, true);
            if (wrong > wrongBefore) {
                broken++;
                System.out.println("BROKEN: " + test.getName() + ", of the sentences "
                        + List.of(test.getAnnotation(Sentence.class).value()));
            }
        }
        System.out.println(found.size() + " tests of sentences, " + broken + " broken");
        end();
    }

    /** What a test throws is one wrong answer, and the others run all the same. */
    private static void call(Method test) {
        try {
            test.invoke(null);
        } catch (InvocationTargetException thrown) {
            due(test.getName() + " throws", thrown.getCause().toString(), "nothing");
        } catch (IllegalAccessException refused) {
            due(test.getName() + " can be called", refused.toString(), "yes");
        }
    }

    /** A call that does not end must not keep the tests from failing. */
    static void watch() {
        Thread watch = new Thread(Check::haltInTime);
        watch.setDaemon(true);
        watch.start();
    }

    private static void haltInTime() {
        try {
            Thread.sleep(MILLISECONDS);
        } catch (InterruptedException early) {
            return;
        }
        System.out.println("a call does not end");
        Runtime.getRuntime().halt(1);
    }

    /** Ends the test: with exit code 1 if an answer was not the one that is due. */
    static void end() {
        System.out.println(asked + " answers looked at, " + wrong + " not as due");
        if (wrong != 0 || asked == 0) {
            System.exit(1);
        }
    }
}
