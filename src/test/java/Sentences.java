import java.lang.reflect.Method;
import java.lang.reflect.Modifier;
import java.util.ArrayList;
import java.util.Comparator;
import java.util.List;
import java.util.function.IntSupplier;

/**
 * What the tests of single sentences share. Each such test is a static method that takes a Check, and whose name begins
 * with "promise" and the two digits of the promise that the sentence stands under.
 */
abstract class Sentences {
    static final int NONE = -1, UNKNOWN = -101, OUTSIDE = -102, STATE = -103, FULL = -104;
    static final int LEAST = Integer.MIN_VALUE, MOST = Integer.MAX_VALUE;

    /** Three trees and seven cases, so many letters as a shire can have. */
    static final String LONGEST = "11,22,33;c11-,m120,u131,o142,a153,c164,m175";
    /** One tree and two cases, so few letters as a shire can have. */
    static final String SHORTEST = "00;c11-,c11-";

    /** The tests of a class, by their names, so that they run in the same order each time. */
    static List<Method> testsOf(Class<?> tests) {
        List<Method> found = new ArrayList<>();
        for (Method method : tests.getDeclaredMethods()) {
            if (Modifier.isStatic(method.getModifiers()) && method.getName().startsWith("promise")) {
                found.add(method);
            }
        }
        found.sort(Comparator.comparing(Method::getName));
        return found;
    }

    static int promiseOf(Method test) {
        int start = "promise".length();
        return Integer.parseInt(test.getName().substring(start, start + 2));
    }

    /** A refusal answers what is due, and changes nothing that a digest tells. */
    static void refused(Check check, MistletoeCourt court, String call, IntSupplier made, int due) {
        long before = court.digest();
        check.due(call, made.getAsInt(), due);
        check.due("the digest behind " + call, court.digest(), before);
    }

    /** The court behind the rightings of these cases at tree 0, in this order. */
    static MistletoeCourt righted(String text, int... suits) {
        MistletoeCourt court = Check.read(text);
        for (int suit : suits) {
            if (court.right(suit, 0) < 0) {
                throw new IllegalArgumentException("case " + suit + " may not be righted in " + text);
            }
        }
        return court;
    }

    static void years(MistletoeCourt court, int years) {
        for (int year = 0; year < years; year++) {
            court.year();
        }
    }
}
