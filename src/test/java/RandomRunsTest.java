import java.util.Random;

/** Long runs of calls, the same each time, on the class and on the oracle; each answer must be the same. */
public final class RandomRunsTest {
    private static final Check CHECK = new Check("RandomRunsTest");
    private static final int RUNS = 1200;
    private static final int CALLS = 420;

    private final Random random;
    private final MistletoeCourt court = new MistletoeCourt();
    private final Oracle oracle = new Oracle();
    private final String name;

    private RandomRunsTest(int seed) {
        random = new Random(seed);
        name = "run " + seed + ", ";
    }

    public static void main(String[] args) {
        for (int seed = 0; seed < RUNS && !CHECK.hasWrong(); seed++) {
            new RandomRunsTest(seed).run();
        }
        CHECK.end();
    }

    private void run() {
        type(random.nextInt(4) == 0 ? spoilt(shireText()) : shireText());
        compareShire();
        for (int call = court.count(9); call < CALLS && !CHECK.hasWrong(); call++) {
            if (random.nextInt(150) == 0) {
                String text = shireText();
                if (call + text.length() < CALLS) {
                    type(random.nextInt(3) == 0 ? spoilt(text) : text);
                    call += text.length();
                }
                compareShire();
            }
            compareOne();
        }
        CHECK.due(name + "digest at the end", court.digest(), oracle.digest());
    }

    private String shireText() {
        StringBuilder text = new StringBuilder();
        int trees = 1 + random.nextInt(3);
        for (int tree = 0; tree < trees; tree++) {
            text.append(tree > 0 ? "," : "").append(random.nextInt(10)).append(random.nextInt(10));
        }
        int suits = 2 + random.nextInt(6);
        int mostNeed = 1 + random.nextInt(9);
        int mostWorth = 1 + random.nextInt(9);
        for (int suit = 0; suit < suits; suit++) {
            text.append(suit > 0 ? ',' : ';').append("cmuoa".charAt(random.nextInt(5)));
            text.append(1 + random.nextInt(mostNeed)).append(1 + random.nextInt(mostWorth));
            text.append(suit == 0 || random.nextInt(4) == 0 ? "-" : String.valueOf(random.nextInt(suit)));
        }
        return text.toString();
    }

    private String spoilt(String text) {
        String letters = "0123456789,;-cmuoa ~xC";
        char letter = letters.charAt(random.nextInt(letters.length()));
        int place = random.nextInt(text.length() + 1);
        switch (random.nextInt(3)) {
            case 0: return text.substring(0, place);
            case 1: return text.substring(0, place) + letter + text.substring(place);
            default: return text.substring(0, place) + letter + text.substring(Math.min(place + 1, text.length()));
        }
    }

    private void type(String text) {
        court.blank();
        oracle.blank();
        for (char letter : text.toCharArray()) {
            CHECK.due(name + "letter", court.letter(letter), oracle.letter(letter));
        }
    }

    private void compareShire() {
        CHECK.due(name + "fault", court.fault(), oracle.fault());
        CHECK.due(name + "shire", court.shire(), oracle.shire());
    }

    private int among(int least, int most) {
        // Now and then one that is named nowhere.
        return random.nextInt(12) == 0 ? least - 1 + random.nextInt(2) * (most - least + 2) : least + random.nextInt(most - least + 1);
    }

    private int aSuit() {
        return among(0, Math.max(0, court.count(1) - 1));
    }

    private int aTree() {
        return among(0, Math.max(0, court.count(0) - 1));
    }

    private void compareOne() {
        int suit = aSuit();
        int tree = aTree();
        int kind = random.nextInt(40);
        if (kind < 10) {
            CHECK.due(name + "right(" + suit + ", " + tree + ")", court.right(suit, tree), oracle.right(suit, tree));
        } else if (kind < 20) {
            compareTold(kind, suit, tree);
        } else {
            compareDone(kind, suit, tree);
        }
    }

    private void compareTold(int kind, int suit, int tree) {
        int what = among(0, 9);
        switch (kind) {
            case 10: CHECK.due(name + "tree", court.tree(tree, what % 3), oracle.tree(tree, what % 3)); break;
            case 11: CHECK.due(name + "suit", court.suit(suit, what), oracle.suit(suit, what)); break;
            case 12: CHECK.due(name + "as", court.as(suit, what / 2), oracle.as(suit, what / 2)); break;
            case 13: CHECK.due(name + "count", court.count(what + 2), oracle.count(what + 2)); break;
            case 14: compareGame(suit, tree); break;
            case 15: compareOdds(suit, tree); break;
            case 16: CHECK.due(name + "digest", court.digest(), oracle.digest()); break;
            case 17: CHECK.due(name + "fault", court.fault(), oracle.fault()); break;
            case 18: compareCenturies(); break;
            default: comparePlan(); break;
        }
    }

    private void compareGame(int suit, int tree) {
        int what = among(0, 1);
        CHECK.due(name + "game(" + tree + ", " + what + ")", court.game(tree, what), oracle.game(tree, what));
    }

    private void compareOdds(int suit, int tree) {
        int years = among(1, 3);
        int what = among(0, 1);
        CHECK.due(name + "odds", court.odds(suit, tree, years, what), oracle.odds(suit, tree, years, what));
    }

    private void compareCenturies() {
        int times = among(1, 60);
        int seed = random.nextInt(20) == 0 ? random.nextInt() : random.nextInt() & Integer.MAX_VALUE;
        int what = among(0, 2);
        CHECK.due(name + "centuries", court.centuries(times, seed, what), oracle.centuries(times, seed, what));
    }

    private void comparePlan() {
        int what = random.nextInt(6) == 0 ? random.nextInt(20) - 1 : new int[] {0, 1, 10, 11, 12, 13, 14}[random.nextInt(7)];
        CHECK.due(name + "plan(" + what + ")", court.plan(what), oracle.plan(what));
    }

    private void compareDone(int kind, int suit, int tree) {
        switch (kind) {
            case 20: case 21: case 22: CHECK.due(name + "year", court.year(), oracle.year()); break;
            case 23: case 24: {
                int birds = among(0, 9);
                CHECK.due(name + "birds", court.birds(tree, birds), oracle.birds(tree, birds));
                break;
            }
            case 25: case 26: {
                int need = among(1, 9);
                int worth = among(1, 9);
                CHECK.due(name + "plead", court.plead(suit, need, worth), oracle.plead(suit, need, worth));
                break;
            }
            case 27: case 28: case 29: CHECK.due(name + "walk", court.walk(suit), oracle.walk(suit)); break;
            case 30: case 31: case 32: case 33: {
                int berries = among(1, 18);
                boolean enough = random.nextBoolean();
                CHECK.due(name + "see", court.see(suit, berries, enough), oracle.see(suit, berries, enough));
                CHECK.due(name + "needs", court.suit(suit, 8), oracle.suit(suit, 8));
                CHECK.due(name + "try", court.suit(suit, 9), oracle.suit(suit, 9));
                break;
            }
            case 34: CHECK.due(name + "forget", court.forget(), oracle.forget()); break;
            case 35: CHECK.due(name + "image", court.image(), oracle.image()); break;
            case 36: CHECK.due(name + "restore", court.restore(), oracle.restore()); break;
            case 37: {
                int code = random.nextInt(140);
                CHECK.due(name + "letter", court.letter(code), oracle.letter(code));
                break;
            }
            case 38: CHECK.due(name + "blank", court.blank(), oracle.blank()); break;
            default: CHECK.due(name + "shire", court.shire(), oracle.shire()); break;
        }
    }
}
