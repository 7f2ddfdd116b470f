import java.lang.reflect.InvocationTargetException;
import java.lang.reflect.Method;
import java.util.ArrayList;
import java.util.List;

/** Runs the test of each sentence that names a boundary case, and looks that every promise has some. */
public final class BoundaryTest {
    private static final int PROMISES = 23;
    private static final List<Class<?>> TESTS = List.of(PageBoundaries.class, CaseBoundaries.class, DeedBoundaries.class,
        PlanBoundaries.class, SightBoundaries.class, WholeBoundaries.class);

    public static void main(String[] args) {
        List<String> failed = failed();
        for (String name : failed) {
            System.out.println("BoundaryTest: " + name + " failed");
        }
        int[] found = testsOfEachPromise();
        boolean isWhole = true;
        for (int promise = 1; promise <= PROMISES; promise++) {
            if (found[promise] == 0) {
                System.out.println("BoundaryTest: promise " + promise + " has no test");
                isWhole = false;
            }
        }
        System.out.println("BoundaryTest: " + found[0] + " sentences looked at, " + failed.size() + " do not hold");
        if (!failed.isEmpty() || !isWhole) {
            System.exit(1);
        }
    }

    /** The names of the tests that fail. */
    static List<String> failed() {
        List<String> failed = new ArrayList<>();
        for (Class<?> tests : TESTS) {
            for (Method test : Sentences.testsOf(tests)) {
                if (!holds(test)) {
                    failed.add(test.getName());
                }
            }
        }
        return failed;
    }

    /** At 0 those of all promises. */
    private static int[] testsOfEachPromise() {
        int[] found = new int[PROMISES + 1];
        for (Class<?> tests : TESTS) {
            for (Method test : Sentences.testsOf(tests)) {
                found[0]++;
                found[Sentences.promiseOf(test)]++;
            }
        }
        return found;
    }

    private static boolean holds(Method test) {
        Check check = new Check(test.getName());
        try {
            test.invoke(null, check);
        } catch (InvocationTargetException thrown) {
            System.out.println(test.getName() + " threw " + thrown.getCause());
            return false;
        } catch (IllegalAccessException thrown) {
            System.out.println(test.getName() + " can't be called: " + thrown);
            return false;
        }
        return check.made() > 0 && !check.hasWrong();
    }
}
