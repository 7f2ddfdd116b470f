/** The court of appeal under the mistletoe: a shire of trees and cases, as ../shared/DOC.md tells it. */
public final class MistletoeCourt {
    public static final int NONE = -1, UNKNOWN = -101, OUTSIDE = -102, STATE = -103, FULL = -104;

    private static final int LEAST_CODE = 32;
    private static final int MOST_CODE = 126;
    private static final int MOST_LETTERS = 46;
    private static final int MOST_TREES = 3;
    private static final int MOST_SUITS = 7;
    private static final int FEWEST_SUITS = 2;
    private static final int MOST_SIGHTINGS = 8;
    private static final int MOST_PLANS = 20;
    private static final int MOST_COUNTED = 999;
    private static final int MOST_ON_A_TREE = 20;
    private static final int MOST_TRIED = 18;
    private static final int MOST_DIGIT = 9;
    private static final int MOST_YEARS_AHEAD = 3;
    private static final int MOST_TIMES = 60;
    private static final int FIRST_PLACE_ASKED = 10;

    private static final String KIND_LETTERS = "cmuoa";
    private static final int CASE = 0, MARRIAGE = 1, MURDER = 2, OAK = 3, ACCIDENT = 4;

    private final Page page;
    private final Reader reader;
    private final Shire now;
    private final Shire kept;
    private final Guesser guesser;
    private final Planner planner;
    private final Contest contest;
    private final Foresight foresight;
    private boolean isKept;
    private int readings;
    private int plans;

    public MistletoeCourt() {
        page = new Page();
        reader = new Reader(page);
        now = new Shire();
        kept = new Shire();
        guesser = new Guesser(now);
        planner = new Planner(now);
        contest = new Contest(now);
        foresight = new Foresight(now);
    }

    // ---- the shire

    public int letter(int code) {
        if (code < LEAST_CODE || code > MOST_CODE) {
            return OUTSIDE;
        }
        if (page.size() >= MOST_LETTERS) {
            return FULL;
        }
        page.add(code);
        return page.size();
    }

    public int blank() {
        int had = page.size();
        page.clear();
        return had;
    }

    public int fault() {
        return reader.firstFault();
    }

    public int shire() {
        if (!reader.isWholeShire()) {
            return STATE;
        }
        reader.readInto(now);
        page.clear();
        isKept = false;
        readings++;
        return now.suits();
    }

    // ---- trees, cases

    public int tree(int tree, int what) {
        if (!now.hasTree(tree)) {
            return UNKNOWN;
        }
        switch (what) {
            case 0: return now.berries(tree);
            case 1: return now.birdsAt(tree);
            case 2: return now.possibleAt(tree);
            default: return OUTSIDE;
        }
    }

    public int suit(int suit, int what) {
        if (!now.hasSuit(suit)) {
            return UNKNOWN;
        }
        switch (what) {
            case 0: return now.kind(suit);
            case 1: return now.need(suit);
            case 2: return now.worth(suit);
            case 3: return now.hangsOn(suit);
            case 4: return now.cost(suit);
            case 5: return has(now.righted(), suit) ? 1 : 0;
            case 6: return now.below(suit);
            case 7: return now.shakes(suit);
            case 8: return guesser.possibleNeeds(suit);
            case 9: return guesser.bestTry(suit);
            default: return OUTSIDE;
        }
    }

    public int as(int suit, int kind) {
        if (!now.hasSuit(suit)) {
            return UNKNOWN;
        }
        if (kind < CASE || kind > ACCIDENT) {
            return OUTSIDE;
        }
        return now.isOfKind(suit, kind) ? suit : NONE;
    }

    // ---- what is done

    public int right(int suit, int tree) {
        if (!now.hasSuit(suit) || !now.hasTree(tree)) {
            return UNKNOWN;
        }
        if (!now.isPossible(suit, tree)) {
            return STATE;
        }
        if (now.rightings() >= MOST_COUNTED) {
            return FULL;
        }
        int reopened = now.shakes(suit);
        now.pluckAndRight(suit, tree);
        return reopened;
    }

    public int year() {
        if (!isRead()) {
            return STATE;
        }
        if (now.years() >= MOST_COUNTED) {
            return FULL;
        }
        now.passYear();
        return now.years();
    }

    public int birds(int tree, int birds) {
        if (!now.hasTree(tree)) {
            return UNKNOWN;
        }
        if (birds < 0 || birds > MOST_DIGIT) {
            return OUTSIDE;
        }
        int before = now.birdsAt(tree);
        now.setBirds(tree, birds);
        return before;
    }

    public int plead(int suit, int need, int worth) {
        if (!now.hasSuit(suit)) {
            return UNKNOWN;
        }
        if (need < 1 || need > MOST_DIGIT || worth < 1 || worth > MOST_DIGIT) {
            return OUTSIDE;
        }
        int before = now.worth(suit);
        now.setClaim(suit, need, worth);
        return before;
    }

    public int walk(int suit) {
        if (!now.hasSuit(suit)) {
            return UNKNOWN;
        }
        if (!has(now.righted(), suit)) {
            return STATE;
        }
        now.unright(suit);
        return now.holds();
    }

    // ---- what would be

    public int plan(int what) {
        boolean isPlace = what >= FIRST_PLACE_ASKED && what < FIRST_PLACE_ASKED + MOST_SUITS;
        if (what != 0 && what != 1 && !isPlace) {
            return OUTSIDE;
        }
        if (!isRead() || plans >= MOST_PLANS) {
            return STATE;
        }
        plans++;
        planner.seek();
        if (isPlace) {
            return planner.placeOf(what - FIRST_PLACE_ASKED);
        }
        return what == 0 ? planner.holds() : planner.spent();
    }

    public int game(int tree, int what) {
        if (!now.hasTree(tree)) {
            return UNKNOWN;
        }
        if (what < 0 || what > 1) {
            return OUTSIDE;
        }
        contest.play(tree);
        return what == 0 ? 100 + contest.lead() : contest.opening();
    }

    public int odds(int suit, int tree, int years, int what) {
        if (!now.hasSuit(suit) || !now.hasTree(tree)) {
            return UNKNOWN;
        }
        if (years < 1 || years > MOST_YEARS_AHEAD || what < 0 || what > 1) {
            return OUTSIDE;
        }
        int birds = now.birdsAt(tree);
        int good = Chances.goodWays(now.berries(tree), birds, years, now.cost(suit));
        int all = Chances.allWays(birds, years);
        return Chances.inLowestTerms(what == 0 ? good : all, good, all);
    }

    // ---- what is seen

    public int see(int suit, int berries, boolean enough) {
        if (!now.hasSuit(suit)) {
            return UNKNOWN;
        }
        if (berries < 1 || berries > MOST_TRIED) {
            return OUTSIDE;
        }
        if (now.sightings().size() >= MOST_SIGHTINGS) {
            return FULL;
        }
        now.sightings().add(suit, berries, enough);
        return now.sightings().size();
    }

    public int forget() {
        int seen = now.sightings().size();
        now.sightings().clear();
        return seen;
    }

    public int centuries(int times, int seed, int what) {
        if (times < 1 || times > MOST_TIMES || seed < 0 || what < 0 || what > 2) {
            return OUTSIDE;
        }
        if (!isRead()) {
            return STATE;
        }
        foresight.pass(times, seed);
        switch (what) {
            case 0: return foresight.rightings();
            case 1: return foresight.holds();
            default: return foresight.seed();
        }
    }

    // ---- what is told of all

    public int image() {
        if (!isRead()) {
            return STATE;
        }
        kept.copyFrom(now);
        isKept = true;
        return kept.years();
    }

    public int restore() {
        if (!isKept) {
            return STATE;
        }
        now.copyFrom(kept);
        return now.years();
    }

    public int count(int what) {
        switch (what) {
            case 0: return now.trees();
            case 1: return now.suits();
            case 2: return now.allBerries();
            case 3: return now.allBirds();
            case 4: return Integer.bitCount(now.righted());
            case 5: return now.holds();
            case 6: return now.years();
            case 7: return now.rightings();
            case 8: return now.sightings().size();
            case 9: return page.size();
            case 10: return readings;
            case 11: return plans;
            default: return OUTSIDE;
        }
    }

    public long digest() {
        long sum = 1229;
        for (int tree = 0; tree < now.trees(); tree++) {
            for (int what = 0; what <= 2; what++) {
                sum = mixed(sum, tree(tree, what));
            }
            for (int what = 0; what <= 1; what++) {
                sum = mixed(sum, game(tree, what));
            }
        }
        for (int suit = 0; suit < now.suits(); suit++) {
            for (int what = 0; what <= 9; what++) {
                sum = mixed(sum, suit(suit, what));
            }
            for (int what = 0; what <= 1; what++) {
                sum = mixed(sum, odds(suit, 0, 2, what));
            }
        }
        for (int place = 0; place < page.size(); place++) {
            sum = mixed(sum, page.code(place));
        }
        for (int what = 0; what <= 11; what++) {
            sum = mixed(sum, count(what));
        }
        return sum;
    }

    private static long mixed(long sum, long number) {
        return 31 * sum + number;
    }

    private boolean isRead() {
        return readings > 0;
    }

    private static int bit(int number) {
        return 1 << number;
    }

    private static boolean has(int bits, int number) {
        return (bits >> number & 1) == 1;
    }

    /** A row of numbers that looks at every place before it is used: 0 is read outside, and nothing is put there. */
    private static final class Row {
        private final int[] cells;

        Row(int size) {
            cells = new int[size < 0 ? 0 : size];
        }

        int at(int place) {
            return place >= 0 && place < cells.length ? cells[place] : 0;
        }

        void put(int place, int number) {
            if (place >= 0 && place < cells.length) {
                cells[place] = number;
            }
        }

        void copyFrom(Row other) {
            if (other == null) {
                return;
            }
            for (int place = 0; place < cells.length; place++) {
                cells[place] = other.at(place);
            }
        }

        int sum(int size) {
            int sum = 0;
            for (int place = 0; place < size; place++) {
                sum += at(place);
            }
            return sum;
        }
    }

    /** The letters that came, by their codes. */
    private static final class Page {
        private final Row codes = new Row(MOST_LETTERS);
        private int size;

        int size() {
            return size;
        }

        int code(int place) {
            return codes.at(place);
        }

        int digit(int place) {
            return codes.at(place) - '0';
        }

        void add(int code) {
            codes.put(size, code);
            size++;
        }

        void clear() {
            size = 0;
        }
    }

    /** Follows the page letter by letter, as far as it can still become a shire. */
    private static final class Reader {
        private static final int BERRIES = 0, BIRDS = 1, TREE_END = 2, KIND = 3, NEED = 4, WORTH = 5, HANGS = 6,
                SUIT_END = 7;
        private static final int TREE_LETTERS = 3;
        private static final int SUIT_LETTERS = 5;

        private final Page page;
        private int part;
        private int trees;
        private int suits;

        Reader(Page page) {
            this.page = page;
        }

        int firstFault() {
            part = BERRIES;
            trees = 0;
            suits = 0;
            for (int place = 0; place < page.size(); place++) {
                if (!takes(page.code(place))) {
                    return place;
                }
            }
            return page.size();
        }

        boolean isWholeShire() {
            return firstFault() == page.size() && part == SUIT_END && suits >= FEWEST_SUITS;
        }

        /** Only behind isWholeShire, which has counted the trees and the cases. */
        void readInto(Shire shire) {
            if (shire == null) {
                return;
            }
            shire.begin();
            for (int tree = 0; tree < trees; tree++) {
                int place = TREE_LETTERS * tree;
                shire.addTree(page.digit(place), page.digit(place + 1));
            }
            for (int suit = 0; suit < suits; suit++) {
                int place = TREE_LETTERS * trees + SUIT_LETTERS * suit;
                int kind = KIND_LETTERS.indexOf((char) page.code(place));
                int hangsOn = page.code(place + 3) == '-' ? NONE : page.digit(place + 3);
                shire.addSuit(kind, page.digit(place + 1), page.digit(place + 2), hangsOn);
            }
        }

        private boolean takes(int code) {
            switch (part) {
                case BERRIES:
                case BIRDS: return takesDigitOfTree(code);
                case TREE_END: return takesTreeEnd(code);
                case KIND: return goesOn(KIND_LETTERS.indexOf((char) code) >= 0, NEED);
                case NEED: return goesOn(isDigit(code, 1, MOST_DIGIT), WORTH);
                case WORTH: return goesOn(isDigit(code, 1, MOST_DIGIT), HANGS);
                case HANGS: return takesHang(code);
                default: return goesOn(code == ',' && suits < MOST_SUITS, KIND);
            }
        }

        private boolean takesDigitOfTree(int code) {
            boolean isRight = isDigit(code, 0, MOST_DIGIT);
            if (part == BERRIES) {
                return goesOn(isRight, BIRDS);
            }
            trees += isRight ? 1 : 0;
            return goesOn(isRight, TREE_END);
        }

        private boolean takesTreeEnd(int code) {
            if (code == ';') {
                return goesOn(true, KIND);
            }
            return goesOn(code == ',' && trees < MOST_TREES, BERRIES);
        }

        private boolean takesHang(int code) {
            // The cases counted so far are the ones ahead of this one.
            boolean isRight = code == '-' || isDigit(code, 0, suits - 1);
            suits += isRight ? 1 : 0;
            return goesOn(isRight, SUIT_END);
        }

        private boolean goesOn(boolean isRight, int next) {
            if (isRight) {
                part = next;
            }
            return isRight;
        }

        private static boolean isDigit(int code, int least, int most) {
            return code >= '0' + least && code <= '0' + most;
        }
    }

    /** Trees and cases as they stand, with all that an image keeps. */
    private static final class Shire {
        private int trees;
        private int suits;
        private final Row berries = new Row(MOST_TREES);
        private final Row birds = new Row(MOST_TREES);
        private final Row kinds = new Row(MOST_SUITS);
        private final Row needs = new Row(MOST_SUITS);
        private final Row worths = new Row(MOST_SUITS);
        private final Row hangs = new Row(MOST_SUITS);
        private final Row straight = new Row(MOST_SUITS);
        private final Row below = new Row(MOST_SUITS);
        private final Sightings sightings = new Sightings();
        private int righted;
        private int years;
        private int rightings;

        void begin() {
            trees = 0;
            suits = 0;
            righted = 0;
            years = 0;
            rightings = 0;
            sightings.clear();
        }

        void addTree(int berriesOfIt, int birdsOfIt) {
            berries.put(trees, berriesOfIt);
            birds.put(trees, birdsOfIt);
            trees++;
        }

        void addSuit(int kind, int need, int worth, int hangsOn) {
            int suit = suits;
            kinds.put(suit, kind);
            needs.put(suit, need);
            worths.put(suit, worth);
            hangs.put(suit, hangsOn);
            straight.put(suit, 0);
            below.put(suit, 0);
            straight.put(hangsOn, straight.at(hangsOn) + 1);
            // A chain of cases goes to ever lower numbers, so it is never longer than there are cases.
            int above = hangsOn;
            for (int level = 0; level < MOST_SUITS && above != NONE; level++) {
                below.put(above, below.at(above) | bit(suit));
                above = hangs.at(above);
            }
            suits++;
        }

        void copyFrom(Shire other) {
            if (other == null) {
                return;
            }
            trees = other.trees;
            suits = other.suits;
            berries.copyFrom(other.berries);
            birds.copyFrom(other.birds);
            kinds.copyFrom(other.kinds);
            needs.copyFrom(other.needs);
            worths.copyFrom(other.worths);
            hangs.copyFrom(other.hangs);
            straight.copyFrom(other.straight);
            below.copyFrom(other.below);
            sightings.copyFrom(other.sightings);
            righted = other.righted;
            years = other.years;
            rightings = other.rightings;
        }

        boolean hasTree(int tree) {
            return tree >= 0 && tree < trees;
        }

        boolean hasSuit(int suit) {
            return suit >= 0 && suit < suits;
        }

        int trees() {
            return trees;
        }

        int suits() {
            return suits;
        }

        int righted() {
            return righted;
        }

        int years() {
            return years;
        }

        int rightings() {
            return rightings;
        }

        Sightings sightings() {
            return sightings;
        }

        int berries(int tree) {
            return berries.at(tree);
        }

        int birdsAt(int tree) {
            return birds.at(tree);
        }

        int allBerries() {
            return berries.sum(trees);
        }

        int allBirds() {
            return birds.sum(trees);
        }

        int kind(int suit) {
            return kinds.at(suit);
        }

        int need(int suit) {
            return needs.at(suit);
        }

        int worth(int suit) {
            return worths.at(suit);
        }

        int hangsOn(int suit) {
            return hangs.at(suit);
        }

        int below(int suit) {
            return below.at(suit);
        }

        boolean isOfKind(int suit, int kind) {
            int own = kinds.at(suit);
            return kind == CASE || own == kind || kind == MARRIAGE && own == ACCIDENT;
        }

        int cost(int suit) {
            return costAtNeed(suit, needs.at(suit));
        }

        int costAtNeed(int suit, int need) {
            int asMarriage = Math.max(1, need - straight.at(suit));
            switch (kinds.at(suit)) {
                case MARRIAGE: return asMarriage;
                case ACCIDENT: return (asMarriage + 1) / 2;
                case MURDER: return 2 * need;
                default: return need;
            }
        }

        int shakes(int suit) {
            return Integer.bitCount(righted & below.at(suit));
        }

        int holds() {
            return worthOf(righted);
        }

        int worthOf(int bits) {
            int worth = 0;
            for (int suit = 0; suit < suits; suit++) {
                worth += has(bits, suit) ? worths.at(suit) : 0;
            }
            return worth;
        }

        /** Whether a case may be righted for all but the berries, where those of rightedThen are righted. */
        boolean isOpen(int suit, int rightedThen) {
            if (has(rightedThen, suit)) {
                return false;
            }
            int hangsOn = hangs.at(suit);
            return kinds.at(suit) != OAK || hangsOn == NONE || has(rightedThen, hangsOn);
        }

        boolean isPossible(int suit, int tree) {
            return isOpen(suit, righted) && berries.at(tree) >= cost(suit);
        }

        int possibleAt(int tree) {
            int bits = 0;
            for (int suit = 0; suit < suits; suit++) {
                bits |= isPossible(suit, tree) ? bit(suit) : 0;
            }
            return bits;
        }

        /** What is righted behind the righting of a case, where those of rightedThen were. */
        int rightedBehind(int suit, int rightedThen) {
            return (rightedThen | bit(suit)) & ~below.at(suit);
        }

        void pluckAndRight(int suit, int tree) {
            berries.put(tree, berries.at(tree) - cost(suit));
            righted = rightedBehind(suit, righted);
            rightings++;
        }

        void unright(int suit) {
            righted &= ~bit(suit);
        }

        void passYear() {
            for (int tree = 0; tree < trees; tree++) {
                berries.put(tree, Math.min(MOST_ON_A_TREE, berries.at(tree) + birds.at(tree)));
            }
            years++;
        }

        void setBirds(int tree, int birdsThen) {
            birds.put(tree, birdsThen);
        }

        void setClaim(int suit, int need, int worth) {
            needs.put(suit, need);
            worths.put(suit, worth);
        }
    }

    /** What is seen: which berries were enough for which case, or were not. */
    private static final class Sightings {
        private final Row suits = new Row(MOST_SIGHTINGS);
        private final Row berries = new Row(MOST_SIGHTINGS);
        private final Row enough = new Row(MOST_SIGHTINGS);
        private int size;

        int size() {
            return size;
        }

        void add(int suit, int berriesTried, boolean wereEnough) {
            suits.put(size, suit);
            berries.put(size, berriesTried);
            enough.put(size, wereEnough ? 1 : 0);
            size++;
        }

        void clear() {
            size = 0;
        }

        void copyFrom(Sightings other) {
            if (other == null) {
                return;
            }
            suits.copyFrom(other.suits);
            berries.copyFrom(other.berries);
            enough.copyFrom(other.enough);
            size = other.size;
        }

        /** Whether all that is seen of a case is so, if it costs so much. */
        boolean allow(int suit, int cost) {
            for (int place = 0; place < size; place++) {
                boolean wouldBeEnough = berries.at(place) >= cost;
                if (suits.at(place) == suit && wouldBeEnough != (enough.at(place) == 1)) {
                    return false;
                }
            }
            return true;
        }
    }

    /** How much a case can need, by what is seen, and with how many berries to try next. */
    private static final class Guesser {
        private final Shire shire;

        Guesser(Shire shire) {
            this.shire = shire;
        }

        int possibleNeeds(int suit) {
            int bits = 0;
            for (int need = 1; need <= MOST_DIGIT; need++) {
                if (shire.sightings().allow(suit, shire.costAtNeed(suit, need))) {
                    bits |= bit(need - 1);
                }
            }
            return bits;
        }

        int bestTry(int suit) {
            int needs = possibleNeeds(suit);
            if (needs == 0) {
                return NONE;
            }
            int best = NONE;
            int fewest = MOST_DIGIT + 1;
            for (int berries = 1; berries <= MOST_TRIED; berries++) {
                int left = leftAtWorst(suit, needs, berries);
                if (left < fewest) {
                    fewest = left;
                    best = berries;
                }
            }
            return best;
        }

        private int leftAtWorst(int suit, int needs, int berries) {
            int ifEnough = 0;
            for (int need = 1; need <= MOST_DIGIT; need++) {
                boolean isEnough = shire.costAtNeed(suit, need) <= berries;
                ifEnough += isEnough && has(needs, need - 1) ? 1 : 0;
            }
            return Math.max(ifEnough, Integer.bitCount(needs) - ifEnough);
        }
    }

    /** The plan: all ways to right cases at trees, from the first by numbers on, so that of like ones the first stays. */
    private static final class Planner {
        private final Shire shire;
        private final Row left = new Row(MOST_TREES);
        private final Row places = new Row(MOST_SUITS);
        private final Row bestPlaces = new Row(MOST_SUITS);
        private int bestHolds;
        private int bestSpent;

        Planner(Shire shire) {
            this.shire = shire;
        }

        int holds() {
            return bestHolds;
        }

        int spent() {
            return bestSpent;
        }

        int placeOf(int suit) {
            return shire.hasSuit(suit) ? bestPlaces.at(suit) : NONE;
        }

        void seek() {
            // Less than any plan holds: to right nothing is a plan, too.
            bestHolds = -1;
            bestSpent = 0;
            for (int tree = 0; tree < shire.trees(); tree++) {
                left.put(tree, shire.berries(tree));
            }
            placeFrom(0, shire.righted(), 0);
        }

        /** A case hangs only on one ahead of it, so to go by numbers rights those on which others hang first. */
        private void placeFrom(int suit, int righted, int spent) {
            if (!canBeBetter(suit, righted, spent)) {
                return;
            }
            if (suit >= shire.suits()) {
                bestHolds = shire.worthOf(righted);
                bestSpent = spent;
                bestPlaces.copyFrom(places);
                return;
            }
            places.put(suit, NONE);
            placeFrom(suit + 1, righted, spent);
            if (shire.isOpen(suit, righted)) {
                placeAtEachTree(suit, shire.rightedBehind(suit, righted), spent + shire.cost(suit));
            }
        }

        private void placeAtEachTree(int suit, int rightedBehind, int spentBehind) {
            int cost = shire.cost(suit);
            for (int tree = 0; tree < shire.trees(); tree++) {
                int berries = left.at(tree);
                if (berries >= cost) {
                    left.put(tree, berries - cost);
                    places.put(suit, tree);
                    placeFrom(suit + 1, rightedBehind, spentBehind);
                    left.put(tree, berries);
                }
            }
        }

        /** What is ahead of the case stays as it is; of the others at most all can be righted. */
        private boolean canBeBetter(int suit, int righted, int spent) {
            int most = shire.worthOf(righted | -bit(suit));
            return most > bestHolds || most == bestHolds && spent < bestSpent;
        }
    }

    /** The game of two at a tree, solved from its ends: which cases the game has righted tells how it goes on. */
    private static final class Contest {
        private final Shire shire;
        private final Row leads = new Row(1 << MOST_SUITS);
        private final Row costs = new Row(MOST_SUITS);
        private int berries;
        private int opening;

        Contest(Shire shire) {
            this.shire = shire;
        }

        int lead() {
            return leads.at(0);
        }

        int opening() {
            return opening;
        }

        void play(int tree) {
            berries = shire.berries(tree);
            for (int suit = 0; suit < shire.suits(); suit++) {
                costs.put(suit, shire.cost(suit));
            }
            for (int taken = bit(shire.suits()) - 1; taken >= 0; taken--) {
                leads.put(taken, bestLead(taken));
            }
        }

        /** The last call of play is for the start of the game, and leaves its opening. */
        private int bestLead(int taken) {
            int left = berries - costOf(taken);
            int best = 0;
            opening = NONE;
            for (int suit = 0; suit < shire.suits(); suit++) {
                if (shire.isOpen(suit, shire.righted() | taken) && costs.at(suit) <= left) {
                    int lead = shire.worth(suit) - leads.at(taken | bit(suit));
                    if (opening == NONE || lead > best) {
                        best = lead;
                        opening = suit;
                    }
                }
            }
            return best;
        }

        private int costOf(int taken) {
            int cost = 0;
            for (int suit = 0; suit < shire.suits(); suit++) {
                cost += has(taken, suit) ? costs.at(suit) : 0;
            }
            return cost;
        }
    }

    /** How many of all ways that years can go bring berries enough. */
    private static final class Chances {
        private static int goodWays(int berries, int birds, int years, int cost) {
            if (years <= 0 || years > MOST_YEARS_AHEAD) {
                return berries >= cost ? 1 : 0;
            }
            int ways = 0;
            for (int more = 0; more <= birds; more++) {
                ways += goodWays(Math.min(MOST_ON_A_TREE, berries + more), birds, years - 1, cost);
            }
            return ways;
        }

        static int allWays(int birds, int years) {
            int ways = 1;
            for (int year = 0; year < years; year++) {
                ways *= birds + 1;
            }
            return ways;
        }

        /** One of the two parts, good or all, divided by what divides both. */
        static int inLowestTerms(int part, int good, int all) {
            for (int divisor = all; divisor > 1; divisor--) {
                if (good % divisor == 0 && all % divisor == 0) {
                    return part / divisor;
                }
            }
            return part;
        }
    }

    /** Centuries by a seed, in a shire of their own, so that nothing happens in the real one. */
    private static final class Foresight {
        private final Shire real;
        private final Shire would = new Shire();
        private long seed;

        Foresight(Shire real) {
            this.real = real;
        }

        int rightings() {
            return would.rightings() - real.rightings();
        }

        int holds() {
            return would.holds();
        }

        int seed() {
            return (int) seed;
        }

        void pass(int times, int firstSeed) {
            would.copyFrom(real);
            seed = firstSeed;
            for (int time = 0; time < times; time++) {
                int suit = draw(would.suits());
                int tree = draw(would.trees());
                if (would.isPossible(suit, tree)) {
                    would.pluckAndRight(suit, tree);
                } else {
                    would.passYear();
                }
            }
        }

        private int draw(int howMany) {
            seed = (1103515245L * seed + 12345L) % 2147483648L;
            return howMany > 0 ? (int) (seed / 65536L % howMany) : 0;
        }
    }
}
