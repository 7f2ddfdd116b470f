/** Promises 14 to 19: what would be, and what is seen. */
public final class ForesightTest {
    private static final Check CHECK = new Check("ForesightTest");

    public static void main(String[] args) {
        plans();
        plansOfLikeWorth();
        plansOverWhatIsRighted();
        plansOfOaks();
        plansRefused();
        games();
        gamesOfOaks();
        odds();
        oddsRefused();
        sightings();
        tries();
        sightingsRefused();
        centuries();
        centuriesRefused();
        CHECK.end();
    }

    /** What plan tells for 0, 1, and 10 on. */
    private static void plan(String what, MistletoeCourt court, int... due) {
        for (int place = 0; place < due.length; place++) {
            int asked = place < 2 ? place : place + 8;
            CHECK.due(what + ": plan(" + asked + ")", court.plan(asked), due[place]);
        }
    }

    private static void plans() {
        plan("all fit only so", Check.read("50,50;c31-,c31-,c21-,c21-"), 4, 10, 0, 1, 0, 1);
        plan("two small ones are worth more", Check.read("40;c49-,c25-,c25-"), 10, 4, -1, 0, 0, -1, -1, -1, -1);
        plan("berries of two trees are not put together", Check.read("20,20;c39-,c11-"), 1, 1, -1, 0);
        plan("no berries", Check.read("00;c11-,c11-"), 0, 0, -1, -1);
        plan("a murder costs twice", Check.read("50;u39-,c51-"), 1, 5, -1, 0);
        plan("a marriage costs less", Check.read("20;m39-,c110"), 9, 2, 0, -1);
        plan("what hangs comes behind", Check.read("20;c15-,c150"), 10, 2, 0, 0);
    }

    private static void plansOfLikeWorth() {
        plan("fewest berries", Check.read("90;c52-,c42-,u12-,c14-"), 8, 7, -1, 0, 0, 0);
        plan("fewest berries of like worth", Check.read("40;c32-,c22-,c41-"), 2, 2, -1, 0, -1);
        plan("none ahead of all", Check.read("10;c11-,c11-"), 1, 1, -1, 0);
        plan("the first tree", Check.read("11,11,11;c11-,c11-"), 2, 2, 0, 1);
        plan("case 0 at the first tree", Check.read("20,30;c21-,c31-"), 2, 5, 0, 1);
        plan("case 0 must leave the first tree", Check.read("30,20;c21-,c31-"), 2, 5, 1, 0);
    }

    private static void plansOverWhatIsRighted() {
        MistletoeCourt stays = Check.read("90;c11-,c190");
        stays.right(1, 0);
        plan("to right the first would reopen", stays, 10, 2, 0, 0);
        stays.plead(1, 9, 9);
        plan("no berries for the second again", stays, 9, 0, -1, -1);
        stays.plead(0, 1, 9);
        plan("like worth, fewer berries", stays, 9, 0, -1, -1);
        MistletoeCourt deep = Check.read("90;c19-,c110,c151");
        deep.right(2, 0);
        deep.right(1, 0);
        plan("by others, too", deep, 15, 3, 0, 0, 0);
        MistletoeCourt twice = Check.read("90;c15-,c16-");
        twice.right(0, 0);
        twice.right(1, 0);
        plan("each is righted already", twice, 11, 0, -1, -1);
    }

    private static void plansOfOaks() {
        plan("an oak needs that on which it hangs", Check.read("50;c51-,o190"), 1, 5, 0, -1);
        plan("and has it in the plan", Check.read("60;c51-,o190"), 10, 6, 0, 0);
        plan("an oak on none", Check.read("10;o15-,o29-"), 5, 1, 0, -1);
        MistletoeCourt righted = Check.read("30;c11-,o190");
        righted.right(0, 0);
        plan("it is righted now", righted, 10, 1, -1, 0);
        MistletoeCourt shaken = Check.read("70;c19-,c310,o111");
        shaken.right(1, 0);
        plan("an oak on one that is reopened by the plan", shaken, 10, 4, 0, 0, -1);
        MistletoeCourt oak = Check.read("90;c29-,o120");
        oak.right(0, 0);
        oak.right(1, 0);
        oak.walk(0);
        plan("an oak that is reopened is righted once more", oak, 11, 3, 0, 0);
    }

    private static void plansRefused() {
        MistletoeCourt none = new MistletoeCourt();
        CHECK.due("outside comes before state", none.plan(2), MistletoeCourt.OUTSIDE);
        CHECK.due("no shire", none.plan(10), MistletoeCourt.STATE);
        MistletoeCourt court = Check.read("90;c11-,c11-");
        int[] outside = {-1, 2, 9, 17, Integer.MIN_VALUE, Integer.MAX_VALUE};
        for (int what : outside) {
            CHECK.due("plan(" + what + ")", court.plan(what), MistletoeCourt.OUTSIDE);
        }
        CHECK.due("refused ones are not done", court.count(11), 0);
        court.image();
        for (int number = 1; number <= 20; number++) {
            CHECK.due("plan number " + number, court.plan(number % 2), 2);
            CHECK.due("done behind plan number " + number, court.count(11), number);
            court.restore();
            if (number == 10) {
                Check.type(court, "90;c11-,c11-");
                court.shire();
            }
        }
        CHECK.due("plan number 21", court.plan(0), MistletoeCourt.STATE);
        CHECK.due("outside still comes first", court.plan(3), MistletoeCourt.OUTSIDE);
        CHECK.due("done", court.count(11), 20);
        Check.type(court, "90;c11-,c11-");
        court.shire();
        CHECK.due("plan behind another shire", court.plan(16), MistletoeCourt.STATE);
    }

    private static void game(String what, MistletoeCourt court, int tree, int lead, int first) {
        CHECK.due(what + ": game(" + tree + ", 0)", court.game(tree, 0), lead);
        CHECK.due(what + ": game(" + tree + ", 1)", court.game(tree, 1), first);
    }

    private static void games() {
        game("one each", Check.read("20;c19-,c14-"), 0, 105, 0);
        game("only one", Check.read("30;c29-,c34-"), 0, 109, 0);
        game("none", Check.read("00;c19-,c14-"), 0, 100, -1);
        game("like ones: the least", Check.read("10;c13-,c13-,c13-"), 0, 103, 0);
        game("to spend so that the other one has none", Check.read("30;c24-,c13-,c33-"), 0, 103, 2);
        game("one must if one can", Check.read("40;c11-,c29-,c29-"), 0, 100, 1);
        game("the other one may be ahead", Check.read("30;c21-,u19-,c11-"), 0, 108, 1);
        game("a loss is told below 100", Check.read("20;c11-,o190"), 0, 92, 0);
        MistletoeCourt righted = Check.read("90,10;c11-,c190,c18-");
        righted.right(1, 0);
        game("what is righted is not righted again", righted, 0, 107, 2);
        CHECK.due("nothing is done by it", righted.count(4), 1);
        CHECK.due("no berries go", righted.tree(0, 0), 8);
        righted.right(2, 0);
        game("nothing is reopened by it", righted, 0, 101, 0);
        CHECK.due("game(2, 0)", righted.game(2, 0), MistletoeCourt.UNKNOWN);
        CHECK.due("game(-1, 0)", righted.game(-1, 0), MistletoeCourt.UNKNOWN);
        CHECK.due("game(2, 2)", righted.game(2, 2), MistletoeCourt.UNKNOWN);
        CHECK.due("game(0, 2)", righted.game(0, 2), MistletoeCourt.OUTSIDE);
        CHECK.due("game(0, -1)", righted.game(0, -1), MistletoeCourt.OUTSIDE);
    }

    private static void gamesOfOaks() {
        game("an oak on none", Check.read("10;o12-,o19-"), 0, 109, 1);
        game("an oak on one not righted", Check.read("30;c51-,o190"), 0, 100, -1);
        MistletoeCourt court = Check.read("90;c81-,o190");
        court.right(0, 0);
        game("an oak on one righted now", court, 0, 109, 1);
        court.walk(0);
        game("an oak on one righted no more", court, 0, 100, -1);
        game("an oak on one righted in the game", Check.read("40;c13-,o120,o111"), 0, 102, 0);
    }

    private static void odds(String what, MistletoeCourt court, int[] asked, int above, int below) {
        CHECK.due(what + ", above", court.odds(asked[0], asked[1], asked[2], 0), above);
        CHECK.due(what + ", below", court.odds(asked[0], asked[1], asked[2], 1), below);
    }

    private static void odds() {
        MistletoeCourt court = Check.read("03,95,00;c21-,u91-,c91-");
        odds("two of four", court, new int[] {0, 0, 1}, 1, 2);
        odds("13 of 16", court, new int[] {0, 0, 2}, 13, 16);
        odds("60 of 64", court, new int[] {0, 0, 3}, 15, 16);
        odds("one of sixteen thirds", court, new int[] {2, 0, 3}, 1, 64);
        odds("never", court, new int[] {1, 0, 3}, 0, 1);
        odds("surely", court, new int[] {0, 1, 1}, 1, 1);
        odds("a murder for twice", court, new int[] {1, 1, 1}, 0, 1);
        odds("a murder in two years", court, new int[] {1, 1, 2}, 1, 12);
        odds("no birds", court, new int[] {0, 2, 3}, 0, 1);
        court.birds(0, 9);
        odds("all birds in three years", court, new int[] {1, 0, 3}, 11, 50);
        MistletoeCourt full = Check.read("99;u91-,c11-");
        full.year();
        odds("20 at most", full, new int[] {0, 0, 3}, 1, 1);
        full.right(0, 0);
        odds("though it is righted", full, new int[] {0, 0, 1}, 0, 1);
    }

    private static void oddsRefused() {
        MistletoeCourt court = Check.read("03;c21-,u91-");
        CHECK.due("odds(2, 0, 1, 0)", court.odds(2, 0, 1, 0), MistletoeCourt.UNKNOWN);
        CHECK.due("odds(-1, 0, 1, 0)", court.odds(-1, 0, 1, 0), MistletoeCourt.UNKNOWN);
        CHECK.due("odds(0, 1, 1, 0)", court.odds(0, 1, 1, 0), MistletoeCourt.UNKNOWN);
        CHECK.due("odds(0, -1, 9, 9)", court.odds(0, -1, 9, 9), MistletoeCourt.UNKNOWN);
        CHECK.due("odds(0, 0, 0, 0)", court.odds(0, 0, 0, 0), MistletoeCourt.OUTSIDE);
        CHECK.due("odds(0, 0, 4, 0)", court.odds(0, 0, 4, 0), MistletoeCourt.OUTSIDE);
        CHECK.due("odds(0, 0, 1, 2)", court.odds(0, 0, 1, 2), MistletoeCourt.OUTSIDE);
        CHECK.due("odds(0, 0, 1, -1)", court.odds(0, 0, 1, -1), MistletoeCourt.OUTSIDE);
    }

    private static void sightings() {
        MistletoeCourt court = Check.read("99;m11-,c110,u110,a11-");
        CHECK.due("see", court.see(0, 2, true), 1);
        CHECK.due("a marriage with two on it", court.suit(0, 8), 0b1111);
        CHECK.due("only of this case", court.suit(1, 8), 511);
        CHECK.due("see again", court.see(0, 1, false), 2);
        CHECK.due("so it needs 4", court.suit(0, 8), 0b1000);
        CHECK.due("a murder", court.see(2, 7, true), 3);
        CHECK.due("needs 3 at most", court.suit(2, 8), 0b111);
        CHECK.due("an accident", court.see(3, 3, false), 4);
        CHECK.due("needs 7 at least", court.suit(3, 8), 0b111000000);
        CHECK.due("see 18", court.see(1, 18, false), 5);
        CHECK.due("it can need none", court.suit(1, 8), 0);
        CHECK.due("and none is to be tried", court.suit(1, 9), -1);
        CHECK.due("what is seen", court.count(8), 5);
        CHECK.due("forget", court.forget(), 5);
        CHECK.due("forget again", court.forget(), 0);
        CHECK.due("all free again", court.suit(1, 8), 511);
        court.plead(1, 9, 9);
        CHECK.due("the need itself tells nothing", court.suit(1, 8), 511);
    }

    private static void tries() {
        MistletoeCourt court = Check.read("99;c11-,m110,u111,a11-,o11-");
        int[] due = {4, 3, 8, 2, 4};
        for (int suit = 0; suit < due.length; suit++) {
            CHECK.due("try of " + suit, court.suit(suit, 9), due[suit]);
        }
        court.see(0, 4, true);
        CHECK.due("try below 5", court.suit(0, 9), 2);
        court.see(0, 2, false);
        CHECK.due("try of 3 and 4", court.suit(0, 9), 3);
        court.see(0, 3, false);
        CHECK.due("one need is left: the least try", court.suit(0, 9), 1);
        court.see(2, 8, false);
        CHECK.due("try of a murder above 4", court.suit(2, 9), 12);
    }

    private static void sightingsRefused() {
        MistletoeCourt court = Check.read("99;c11-,m110");
        CHECK.due("see(2, ..)", court.see(2, 0, true), MistletoeCourt.UNKNOWN);
        CHECK.due("see(-1, ..)", court.see(-1, 1, true), MistletoeCourt.UNKNOWN);
        CHECK.due("see(0, 0, ..)", court.see(0, 0, true), MistletoeCourt.OUTSIDE);
        CHECK.due("see(0, 19, ..)", court.see(0, 19, true), MistletoeCourt.OUTSIDE);
        CHECK.due("nothing is seen", court.count(8), 0);
        for (int number = 1; number <= 8; number++) {
            CHECK.due("see number " + number, court.see(1, 18, true), number);
        }
        CHECK.due("see number 9", court.see(0, 1, false), MistletoeCourt.FULL);
        CHECK.due("outside comes before full", court.see(0, 19, true), MistletoeCourt.OUTSIDE);
        CHECK.due("unknown comes before full", court.see(2, 1, true), MistletoeCourt.UNKNOWN);
        CHECK.due("eight are seen", court.count(8), 8);
        CHECK.due("the ninth tells nothing", court.suit(0, 8), 511);
        court.forget();
        CHECK.due("see behind forget", court.see(0, 1, false), 1);
    }

    private static void centuries() {
        MistletoeCourt court = Check.read("92,61;m52-,c340,u491,o232,a830");
        CHECK.due("how often", court.centuries(20, 77, 0), 6);
        CHECK.due("what holds", court.centuries(20, 77, 1), 18);
        CHECK.due("the seed", court.centuries(20, 77, 2), 1246875877);
        CHECK.due("nothing is done", court.count(7), 0);
        CHECK.due("no year went", court.count(6), 0);
        CHECK.due("no berries went", court.count(2), 15);
        MistletoeCourt one = Check.read("50;a91-,m910");
        CHECK.due("greatest seed", one.centuries(1, Integer.MAX_VALUE, 2), 288979989);
        CHECK.due("least seed", one.centuries(1, 0, 2), (int) ((1103515245L * 12345L + 12345L) % (1L << 31)));
        one.year();
        court.right(1, 0);
        CHECK.due("how often in these alone", court.centuries(1, 1, 0), howOftenAtOnce(court));
        CHECK.due("most times", court.centuries(60, 5, 2), seedBehind(5, 120));
    }

    /** With seed 1 case and tree are those of the first two draws. */
    private static int howOftenAtOnce(MistletoeCourt court) {
        long first = seedBehind(1, 1);
        long second = seedBehind(1, 2);
        int suit = (int) (first / 65536 % court.count(1));
        int tree = (int) (second / 65536 % court.count(0));
        return court.tree(tree, 2) >> suit & 1;
    }

    private static int seedBehind(long seed, int draws) {
        long now = seed;
        for (int draw = 0; draw < draws; draw++) {
            now = (1103515245L * now + 12345L) % (1L << 31);
        }
        return (int) now;
    }

    private static void centuriesRefused() {
        MistletoeCourt none = new MistletoeCourt();
        CHECK.due("outside comes before state", none.centuries(0, 0, 0), MistletoeCourt.OUTSIDE);
        CHECK.due("no shire", none.centuries(1, 0, 0), MistletoeCourt.STATE);
        MistletoeCourt court = Check.read("99;c11-,m110");
        CHECK.due("times 0", court.centuries(0, 1, 0), MistletoeCourt.OUTSIDE);
        CHECK.due("times 61", court.centuries(61, 1, 0), MistletoeCourt.OUTSIDE);
        CHECK.due("seed -1", court.centuries(1, -1, 0), MistletoeCourt.OUTSIDE);
        CHECK.due("least seed", court.centuries(1, Integer.MIN_VALUE, 0), MistletoeCourt.OUTSIDE);
        CHECK.due("what 3", court.centuries(1, 1, 3), MistletoeCourt.OUTSIDE);
        CHECK.due("what -1", court.centuries(1, 1, -1), MistletoeCourt.OUTSIDE);
    }
}
