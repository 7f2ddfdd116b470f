import java.math.BigInteger;
import java.util.ArrayList;
import java.util.List;
import java.util.regex.Matcher;
import java.util.regex.Pattern;

/** The document once more, by other and slower ways (patterns, lists, trying all), to compare the class with. */
final class Oracle {
    private static final String LETTERS = "cmuoa";
    private static final Pattern SHIRE = Pattern.compile(shirePattern());

    /** A shire with all that an image keeps. */
    private static final class State {
        final List<int[]> trees = new ArrayList<>();
        final List<int[]> suits = new ArrayList<>();
        final List<int[]> seen = new ArrayList<>();
        final List<Integer> righted = new ArrayList<>();
        int years;
        int rightings;

        State copy() {
            State other = new State();
            trees.forEach(tree -> other.trees.add(tree.clone()));
            suits.forEach(suit -> other.suits.add(suit.clone()));
            seen.forEach(sight -> other.seen.add(sight.clone()));
            other.righted.addAll(righted);
            other.years = years;
            other.rightings = rightings;
            return other;
        }
    }

    private static final int KIND = 0, NEED = 1, WORTH = 2, ON = 3;

    private String page = "";
    private State now = new State();
    private State image;
    private int readings;
    private int plans;

    private static String shirePattern() {
        StringBuilder text = new StringBuilder("[0-9][0-9](?:,[0-9][0-9]){0,2};[cmuoa][1-9][1-9]-");
        String ahead = "0";
        StringBuilder cases = new StringBuilder();
        for (int suit = 1; suit < 7; suit++) {
            String one = ",[cmuoa][1-9][1-9][-" + ahead + "]";
            cases.append(suit == 1 ? one : "(?:" + one);
            ahead += suit;
        }
        return text.append(cases).append(")?".repeat(5)).toString();
    }

    int letter(int code) {
        if (code < 32 || code > 126) {
            return -102;
        }
        if (page.length() == 46) {
            return -104;
        }
        page += (char) code;
        return page.length();
    }

    int blank() {
        int had = page.length();
        page = "";
        return had;
    }

    int fault() {
        for (int size = 1; size <= page.length(); size++) {
            Matcher matcher = SHIRE.matcher(page.substring(0, size));
            if (!matcher.matches() && !matcher.hitEnd()) {
                return size - 1;
            }
        }
        return page.length();
    }

    int shire() {
        if (!SHIRE.matcher(page).matches()) {
            return -103;
        }
        now = new State();
        image = null;
        String[] parts = page.split(";");
        for (String tree : parts[0].split(",")) {
            now.trees.add(new int[] {tree.charAt(0) - '0', tree.charAt(1) - '0'});
        }
        for (String suit : parts[1].split(",")) {
            int on = suit.charAt(3) == '-' ? -1 : suit.charAt(3) - '0';
            now.suits.add(new int[] {LETTERS.indexOf(suit.charAt(0)), suit.charAt(1) - '0', suit.charAt(2) - '0', on});
        }
        page = "";
        readings++;
        return now.suits.size();
    }

    private boolean noTree(int tree) {
        return tree < 0 || tree >= now.trees.size();
    }

    private boolean noSuit(int suit) {
        return suit < 0 || suit >= now.suits.size();
    }

    private static boolean isAbove(State state, int above, int suit) {
        int on = state.suits.get(suit)[ON];
        return on >= 0 && (on == above || isAbove(state, above, on));
    }

    private static int cost(State state, int suit, int need) {
        long hanging = state.suits.stream().filter(other -> other[ON] == suit).count();
        int kind = state.suits.get(suit)[KIND];
        double marriage = Math.max(1, need - hanging);
        double[] costs = {need, marriage, need * 2, need, Math.ceil(marriage / 2)};
        return (int) costs[kind];
    }

    private static int cost(State state, int suit) {
        return cost(state, suit, state.suits.get(suit)[NEED]);
    }

    private static boolean mayOak(State state, int suit, List<Integer> righted) {
        int[] it = state.suits.get(suit);
        return it[KIND] != 3 || it[ON] == -1 || righted.contains(it[ON]);
    }

    private static boolean may(State state, int suit, int tree) {
        return !state.righted.contains(suit) && mayOak(state, suit, state.righted)
                && state.trees.get(tree)[0] >= cost(state, suit);
    }

    private static int doRight(State state, int suit, int tree) {
        state.trees.get(tree)[0] -= cost(state, suit);
        int before = state.righted.size();
        state.righted.removeIf(other -> isAbove(state, suit, other));
        int reopened = before - state.righted.size();
        state.righted.add(suit);
        state.rightings++;
        return reopened;
    }

    private static void doYear(State state) {
        for (int[] tree : state.trees) {
            tree[0] += tree[1];
            if (tree[0] > 20) {
                tree[0] = 20;
            }
        }
        state.years++;
    }

    private static int holds(State state) {
        return state.righted.stream().mapToInt(suit -> state.suits.get(suit)[WORTH]).sum();
    }

    int tree(int tree, int what) {
        if (noTree(tree)) {
            return -101;
        }
        if (what < 0 || what > 2) {
            return -102;
        }
        if (what < 2) {
            return now.trees.get(tree)[what];
        }
        int sum = 0;
        for (int suit = 0; suit < now.suits.size(); suit++) {
            sum += may(now, suit, tree) ? Math.pow(2, suit) : 0;
        }
        return sum;
    }

    int suit(int suit, int what) {
        if (noSuit(suit)) {
            return -101;
        }
        if (what < 0 || what > 9) {
            return -102;
        }
        if (what < 4) {
            return now.suits.get(suit)[what];
        }
        int all = 0;
        int shaken = 0;
        for (int other = 0; other < now.suits.size(); other++) {
            if (isAbove(now, suit, other)) {
                all += Math.pow(2, other);
                shaken += now.righted.contains(other) ? 1 : 0;
            }
        }
        List<Integer> needs = needs(suit);
        int bits = needs.stream().mapToInt(need -> (int) Math.pow(2, need - 1)).sum();
        int[] told = {cost(now, suit), now.righted.contains(suit) ? 1 : 0, all, shaken, bits, bestTry(suit, needs)};
        return told[what - 4];
    }

    private List<Integer> needs(int suit) {
        List<Integer> needs = new ArrayList<>();
        for (int need = 1; need <= 9; need++) {
            int cost = cost(now, suit, need);
            if (now.seen.stream().allMatch(sight -> sight[0] != suit || (sight[1] >= cost ? 1 : 0) == sight[2])) {
                needs.add(need);
            }
        }
        return needs;
    }

    private int bestTry(int suit, List<Integer> needs) {
        int best = -1;
        long least = Long.MAX_VALUE;
        for (int berries = 18; berries >= 1 && !needs.isEmpty(); berries--) {
            int tried = berries;
            long enough = needs.stream().filter(need -> cost(now, suit, need) <= tried).count();
            long worst = enough > needs.size() - enough ? enough : needs.size() - enough;
            if (worst <= least) {
                least = worst;
                best = berries;
            }
        }
        return best;
    }

    int as(int suit, int kind) {
        if (noSuit(suit)) {
            return -101;
        }
        if (kind < 0 || kind > 4) {
            return -102;
        }
        String[] kindsOf = {"c", "cm", "cu", "co", "cma"};
        return kindsOf[now.suits.get(suit)[KIND]].indexOf(LETTERS.charAt(kind)) >= 0 ? suit : -1;
    }

    int right(int suit, int tree) {
        if (noSuit(suit) || noTree(tree)) {
            return -101;
        }
        return may(now, suit, tree) ? doRight(now, suit, tree) : -103;
    }

    int year() {
        if (readings == 0) {
            return -103;
        }
        doYear(now);
        return now.years;
    }

    int birds(int tree, int birds) {
        if (noTree(tree)) {
            return -101;
        }
        if (birds < 0 || birds > 9) {
            return -102;
        }
        int had = now.trees.get(tree)[1];
        now.trees.get(tree)[1] = birds;
        return had;
    }

    int plead(int suit, int need, int worth) {
        if (noSuit(suit)) {
            return -101;
        }
        if (need < 1 || need > 9 || worth < 1 || worth > 9) {
            return -102;
        }
        int had = now.suits.get(suit)[WORTH];
        now.suits.get(suit)[NEED] = need;
        now.suits.get(suit)[WORTH] = worth;
        return had;
    }

    int walk(int suit) {
        if (noSuit(suit)) {
            return -101;
        }
        if (!now.righted.remove(Integer.valueOf(suit))) {
            return -103;
        }
        return holds(now);
    }

    int plan(int what) {
        if (what != 0 && what != 1 && (what < 10 || what > 16)) {
            return -102;
        }
        if (readings == 0 || plans == 20) {
            return -103;
        }
        plans++;
        int size = now.suits.size();
        int[] best = null;
        int[] bestTold = {-1, 0};
        int ways = (int) Math.pow(now.trees.size() + 1, size);
        for (int way = 0; way < ways; way++) {
            int[] places = new int[size];
            int rest = way;
            for (int suit = size - 1; suit >= 0; suit--) {
                places[suit] = rest % (now.trees.size() + 1) - 1;
                rest /= now.trees.size() + 1;
            }
            int[] told = carriedOut(places);
            if (told != null && (told[0] > bestTold[0] || told[0] == bestTold[0] && told[1] < bestTold[1])) {
                best = places;
                bestTold = told;
            }
        }
        if (what < 2) {
            return bestTold[what];
        }
        return what - 10 < size ? best[what - 10] : -1;
    }

    private static int depth(State state, int suit) {
        int on = state.suits.get(suit)[ON];
        return on < 0 ? 0 : 1 + depth(state, on);
    }

    /** By the depth of hanging, the last number first: another order than that of the class. */
    private int[] carriedOut(int[] places) {
        State would = null;
        int spent = 0;
        int[] left = new int[now.trees.size()];
        for (int tree = 0; tree < left.length; tree++) {
            left[tree] = now.trees.get(tree)[0];
        }
        for (int suit = 0; suit < places.length; suit++) {
            if (places[suit] >= 0) {
                left[places[suit]] -= cost(now, suit);
                spent += cost(now, suit);
                if (left[places[suit]] < 0) {
                    return null;
                }
            }
        }
        would = now.copy();
        for (int depth = 0; depth < places.length; depth++) {
            for (int suit = places.length - 1; suit >= 0; suit--) {
                if (places[suit] >= 0 && depth(would, suit) == depth) {
                    if (!may(would, suit, places[suit])) {
                        return null;
                    }
                    doRight(would, suit, places[suit]);
                }
            }
        }
        return new int[] {holds(would), spent};
    }

    int game(int tree, int what) {
        if (noTree(tree)) {
            return -101;
        }
        if (what < 0 || what > 1) {
            return -102;
        }
        int[] told = played(now.trees.get(tree)[0], new ArrayList<>(now.righted));
        return what == 0 ? told[0] + 100 : told[1];
    }

    private int[] played(int berries, List<Integer> righted) {
        int[] best = {0, -1};
        for (int suit = now.suits.size() - 1; suit >= 0; suit--) {
            if (!righted.contains(suit) && cost(now, suit) <= berries && mayOak(now, suit, righted)) {
                List<Integer> then = new ArrayList<>(righted);
                then.add(suit);
                int lead = now.suits.get(suit)[WORTH] - played(berries - cost(now, suit), then)[0];
                if (best[1] < 0 || lead >= best[0]) {
                    best = new int[] {lead, suit};
                }
            }
        }
        return best;
    }

    int odds(int suit, int tree, int years, int what) {
        if (noSuit(suit) || noTree(tree)) {
            return -101;
        }
        if (years < 1 || years > 3 || what < 0 || what > 1) {
            return -102;
        }
        int base = now.trees.get(tree)[1] + 1;
        int ways = (int) Math.pow(base, years);
        int good = 0;
        for (int way = 0; way < ways; way++) {
            int berries = now.trees.get(tree)[0];
            for (int year = 0, rest = way; year < years; year++, rest /= base) {
                berries = Math.min(20, berries + rest % base);
            }
            good += berries >= cost(now, suit) ? 1 : 0;
        }
        int common = BigInteger.valueOf(good).gcd(BigInteger.valueOf(ways)).intValue();
        return what == 0 ? good / common : ways / common;
    }

    int see(int suit, int berries, boolean enough) {
        if (noSuit(suit)) {
            return -101;
        }
        if (berries < 1 || berries > 18) {
            return -102;
        }
        if (now.seen.size() == 8) {
            return -104;
        }
        now.seen.add(new int[] {suit, berries, enough ? 1 : 0});
        return now.seen.size();
    }

    int forget() {
        int seen = now.seen.size();
        now.seen.clear();
        return seen;
    }

    int centuries(int times, int seed, int what) {
        if (times < 1 || times > 60 || seed < 0 || what < 0 || what > 2) {
            return -102;
        }
        if (readings == 0) {
            return -103;
        }
        State would = now.copy();
        BigInteger drawn = BigInteger.valueOf(seed);
        int often = 0;
        for (int time = 0; time < times; time++) {
            drawn = next(drawn);
            int suit = rest(drawn, would.suits.size());
            drawn = next(drawn);
            int tree = rest(drawn, would.trees.size());
            if (may(would, suit, tree)) {
                doRight(would, suit, tree);
                often++;
            } else {
                doYear(would);
            }
        }
        return new int[] {often, holds(would), drawn.intValueExact()}[what];
    }

    private static BigInteger next(BigInteger seed) {
        return seed.multiply(BigInteger.valueOf(1103515245)).add(BigInteger.valueOf(12345)).mod(BigInteger.TWO.pow(31));
    }

    private static int rest(BigInteger seed, int howMany) {
        return seed.divide(BigInteger.valueOf(65536)).mod(BigInteger.valueOf(howMany)).intValue();
    }

    int image() {
        if (readings == 0) {
            return -103;
        }
        image = now.copy();
        return now.years;
    }

    int restore() {
        if (image == null) {
            return -103;
        }
        now = image.copy();
        return now.years;
    }

    int count(int what) {
        if (what < 0 || what > 11) {
            return -102;
        }
        int berries = now.trees.stream().mapToInt(tree -> tree[0]).sum();
        int birds = now.trees.stream().mapToInt(tree -> tree[1]).sum();
        return new int[] {now.trees.size(), now.suits.size(), berries, birds, now.righted.size(), holds(now), now.years,
            now.rightings, now.seen.size(), page.length(), readings, plans}[what];
    }

    long digest() {
        List<Integer> numbers = new ArrayList<>();
        for (int tree = 0; tree < now.trees.size(); tree++) {
            numbers.addAll(List.of(tree(tree, 0), tree(tree, 1), tree(tree, 2), game(tree, 0), game(tree, 1)));
        }
        for (int suit = 0; suit < now.suits.size(); suit++) {
            for (int what = 0; what < 10; what++) {
                numbers.add(suit(suit, what));
            }
            numbers.addAll(List.of(odds(suit, 0, 2, 0), odds(suit, 0, 2, 1)));
        }
        page.chars().forEach(numbers::add);
        for (int what = 0; what < 12; what++) {
            numbers.add(count(what));
        }
        BigInteger h = BigInteger.valueOf(1229);
        for (int number : numbers) {
            h = h.multiply(BigInteger.valueOf(31)).add(BigInteger.valueOf(number));
        }
        return h.longValue();
    }
}
