import java.lang.management.ManagementFactory;
import java.util.Random;

/** Any arguments in any state: nothing is ever thrown, a refusal changes nothing, and no call makes objects. */
public final class WildCallsTest {
    private static final Check CHECK = new Check("WildCallsTest");
    private static final int RUNS = 600;
    private static final int CALLS = 500;
    private static final String[] TEXTS = {
        "11,22,33;c11-,m120,u131,o142,a153,c164,m175", "00;c11-,c11-", "99,99,99;o99-,o990,o991,o992,o993,o994,o995",
        "05;m91-,a910,a910,a910,a910,a910,u910", "49,05;o55-,a340,c210,m692,u131", "9", ";", ""};

    private final Random random;
    private final MistletoeCourt court = new MistletoeCourt();

    private WildCallsTest(int seed) {
        random = new Random(seed);
    }

    public static void main(String[] args) {
        for (int seed = 0; seed < RUNS && !CHECK.hasWrong(); seed++) {
            new WildCallsTest(seed).run(seed);
        }
        noObjectsAreMade();
        CHECK.end();
    }

    private void run(int seed) {
        Check.type(court, TEXTS[random.nextInt(TEXTS.length)]);
        for (int call = court.count(9); call < CALLS && !CHECK.hasWrong(); call++) {
            int kind = random.nextInt(21);
            long before = court.digest();
            try {
                int answer = answer(kind);
                boolean isRefused = answer >= MistletoeCourt.FULL && answer <= MistletoeCourt.UNKNOWN;
                CHECK.isTrue("run " + seed + ", kind " + kind + ": a refusal changes nothing",
                    !isRefused || court.digest() == before);
            } catch (Throwable thrown) {
                CHECK.isTrue("run " + seed + ", kind " + kind + " threw " + thrown, false);
            }
        }
    }

    private int wild() {
        int[] edges = {Integer.MIN_VALUE, Integer.MAX_VALUE, -1, 0, 1, 2, 3, 7, 8, 9, 10, 17, 18, 19, 31, 32, 46, 127, 128};
        return random.nextInt(3) == 0 ? edges[random.nextInt(edges.length)] : random.nextInt(7);
    }

    private int answer(int kind) {
        switch (kind) {
            case 0: return court.letter(random.nextBoolean() ? wild() : 32 + random.nextInt(95));
            case 1: return court.blank();
            case 2: return court.fault();
            case 3: return readAgain();
            case 4: return court.tree(wild(), wild());
            case 5: return court.suit(wild(), wild());
            case 6: return court.as(wild(), wild());
            case 7: return court.right(wild(), wild());
            case 8: return court.year();
            case 9: return court.birds(wild(), wild());
            case 10: return court.plead(wild(), wild(), wild());
            case 11: return court.walk(wild());
            case 12: return court.plan(wild());
            case 13: return court.game(wild(), wild());
            case 14: return court.odds(wild(), wild(), wild(), wild());
            case 15: return court.see(wild(), wild(), random.nextBoolean());
            case 16: return court.forget();
            case 17: return court.centuries(wild(), wild(), wild());
            case 18: return court.image();
            case 19: return court.restore();
            default: return court.count(wild());
        }
    }

    private int readAgain() {
        if (random.nextInt(8) == 0) {
            court.blank();
            Check.type(court, TEXTS[random.nextInt(TEXTS.length)]);
            return 0;
        }
        return court.shire();
    }

    /** All objects of a run live in one room, so all that a run needs is made by the constructor. */
    private static void noObjectsAreMade() {
        com.sun.management.ThreadMXBean bean = (com.sun.management.ThreadMXBean) ManagementFactory.getThreadMXBean();
        WildCallsTest test = new WildCallsTest(1);
        Check.type(test.court, TEXTS[0]);
        test.court.shire();
        long id = Thread.currentThread().getId();
        bean.getThreadAllocatedBytes(id);
        long before = bean.getThreadAllocatedBytes(id);
        for (int call = 0; call < 20; call++) {
            test.court.plan(0);
            test.court.digest();
            test.court.centuries(60, call, 1);
            test.court.image();
            test.court.restore();
            test.court.fault();
            test.court.shire();
        }
        long made = bean.getThreadAllocatedBytes(id) - before;
        CHECK.isTrue("the calls made " + made + " bytes of objects", made < 4096);
    }
}
