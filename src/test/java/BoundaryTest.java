import java.lang.reflect.InvocationTargetException;
import java.lang.reflect.Method;
import java.util.Arrays;
import java.util.Comparator;
import java.util.Set;
import java.util.TreeSet;

/** Runs the boundary tests, one for each sentence of the document that names a boundary case. */
public final class BoundaryTest {
    private static final Class<?>[] ALL = {
        LimitBoundaries.class, CopyBoundaries.class, SetBoundaries.class, CodeBoundaries.class,
        TextBoundaries.class, TransferBoundaries.class, TellBoundaries.class,
    };

    private static final int PROMISES = 29;

    private int sentences;
    private int answers;
    private int wrong;
    private final Set<Integer> promises = new TreeSet<>();

    public static void main(String[] args) throws IllegalAccessException {
        BoundaryTest test = new BoundaryTest();
        for (Class<?> each : ALL) {
            test.runAll(each);
        }
        test.wantEveryPromise();
        System.out.println("boundaries: " + test.sentences + " sentences, " + test.answers + " answers, "
            + test.wrong + " wrong");
        if (test.wrong != 0) {
            System.exit(1);
        }
    }

    private void runAll(Class<?> tests) throws IllegalAccessException {
        Method[] methods = tests.getDeclaredMethods();
        Arrays.sort(methods, Comparator.comparing(Method::getName));
        for (Method each : methods) {
            Sentence sentence = each.getAnnotation(Sentence.class);
            if (sentence != null) {
                runOne(each, sentence);
            }
        }
    }

    private void runOne(Method test, Sentence sentence) throws IllegalAccessException {
        String place = sentence.promise() == 0 ? "Terms" : "Promise " + sentence.promise();
        Checks checks = new Checks(place + ", \"" + sentence.words() + "\", " + test.getName());
        try {
            test.invoke(null, checks);
        } catch (InvocationTargetException e) {
            checks.fail("threw " + e.getCause());
        }
        if (checks.made() == 0) {
            checks.fail("asked nothing");
        }
        sentences++;
        answers += checks.made();
        wrong += checks.wrong();
        promises.add(sentence.promise());
    }

    private void wantEveryPromise() {
        for (int promise = 0; promise <= PROMISES; promise++) {
            if (!promises.contains(promise)) {
                wrong++;
                System.out.println("boundaries: no test of promise " + promise);
            }
        }
    }
}
