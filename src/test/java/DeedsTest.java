/** Promises 6 to 13: trees and cases, and what is done to them. */
public final class DeedsTest {
    private static final Check CHECK = new Check("DeedsTest");

    public static void main(String[] args) {
        trees();
        suits();
        costs();
        kinds();
        rightings();
        refusedRightings();
        oaks();
        years();
        birds();
        pleas();
        walks();
        CHECK.end();
    }

    private static void trees() {
        MistletoeCourt court = Check.read("50,37,09;c31-,u320,o111,o41-,m82-");
        int[][] due = {{5, 0, 0b01001}, {3, 7, 0b00001}, {0, 9, 0}};
        for (int tree = 0; tree < 3; tree++) {
            for (int what = 0; what < 3; what++) {
                CHECK.due("tree(" + tree + ", " + what + ")", court.tree(tree, what), due[tree][what]);
            }
            CHECK.due("tree of 3", court.tree(tree, 3), MistletoeCourt.OUTSIDE);
            CHECK.due("tree of -1", court.tree(tree, -1), MistletoeCourt.OUTSIDE);
        }
        CHECK.due("tree(3, 0)", court.tree(3, 0), MistletoeCourt.UNKNOWN);
        CHECK.due("tree(-1, 0)", court.tree(-1, 0), MistletoeCourt.UNKNOWN);
        CHECK.due("unknown comes before outside", court.tree(3, 3), MistletoeCourt.UNKNOWN);
        court.right(0, 0);
        CHECK.due("berries are plucked", court.tree(0, 0), 2);
        CHECK.due("what is righted may not be righted", court.tree(1, 2), 0);
        court.year();
        court.year();
        court.right(1, 2);
        CHECK.due("an oak on a righted case may be righted", court.tree(0, 2), 0b00100);
    }

    private static void suits() {
        MistletoeCourt court = Check.read("99,99;m52-,c340,u491,o232,a830");
        int[][] due = {
            {1, 5, 2, -1, 3, 0, 0b11110, 0, 511}, {0, 3, 4, 0, 3, 0, 0b01100, 0, 511},
            {2, 4, 9, 1, 8, 0, 0b01000, 0, 511}, {3, 2, 3, 2, 2, 0, 0, 0, 511}, {4, 8, 3, 0, 4, 0, 0, 0, 511}};
        for (int suit = 0; suit < due.length; suit++) {
            for (int what = 0; what < due[suit].length; what++) {
                CHECK.due("suit(" + suit + ", " + what + ")", court.suit(suit, what), due[suit][what]);
            }
        }
        CHECK.due("suit(5, 0)", court.suit(5, 0), MistletoeCourt.UNKNOWN);
        CHECK.due("suit(-1, 0)", court.suit(-1, 0), MistletoeCourt.UNKNOWN);
        CHECK.due("suit(0, 10)", court.suit(0, 10), MistletoeCourt.OUTSIDE);
        CHECK.due("suit(0, -1)", court.suit(0, -1), MistletoeCourt.OUTSIDE);
        CHECK.due("unknown comes before outside", court.suit(5, 10), MistletoeCourt.UNKNOWN);
        court.right(2, 0);
        court.right(4, 1);
        CHECK.due("righted", court.suit(2, 5), 1);
        CHECK.due("not righted", court.suit(3, 5), 0);
        CHECK.due("shakes of 0", court.suit(0, 7), 2);
        CHECK.due("shakes of 1", court.suit(1, 7), 1);
        CHECK.due("shakes of 2", court.suit(2, 7), 0);
        CHECK.due("the righted one costs the same", court.suit(2, 4), 8);
    }

    private static void costs() {
        MistletoeCourt marriage = Check.read("99;m31-,m410,m110,m110,c110,a111,a91-");
        CHECK.due("a marriage costs 1 at least", marriage.suit(0, 4), 1);
        CHECK.due("a marriage with an accident on it", marriage.suit(1, 4), 3);
        CHECK.due("a marriage of need 1", marriage.suit(2, 4), 1);
        CHECK.due("an accident of need 1", marriage.suit(5, 4), 1);
        CHECK.due("an accident of need 9", marriage.suit(6, 4), 5);
        MistletoeCourt accident = Check.read("99;a91-,c210,a511,u410,o911");
        CHECK.due("an accident with two on it", accident.suit(0, 4), 4);
        CHECK.due("a case with two on it", accident.suit(1, 4), 2);
        CHECK.due("an accident of need 5", accident.suit(2, 4), 3);
        CHECK.due("a murder", accident.suit(3, 4), 8);
        CHECK.due("an oak", accident.suit(4, 4), 9);
        accident.right(1, 0);
        CHECK.due("righted ones that hang count, too", accident.suit(0, 4), 4);
        accident.plead(0, 2, 1);
        CHECK.due("half of 1, rounded up", accident.suit(0, 4), 1);
    }

    private static void kinds() {
        MistletoeCourt court = Check.read("99;c11-,m11-,u11-,o11-,a11-");
        int[][] due = {{0, -1, -1, -1, -1}, {1, 1, -1, -1, -1}, {2, -1, 2, -1, -1}, {3, -1, -1, 3, -1}, {4, 4, -1, -1, 4}};
        for (int suit = 0; suit < 5; suit++) {
            CHECK.due("kind of " + suit, court.suit(suit, 0), suit);
            for (int kind = 0; kind < 5; kind++) {
                CHECK.due("as(" + suit + ", " + kind + ")", court.as(suit, kind), due[suit][kind]);
            }
        }
        CHECK.due("as(0, 5)", court.as(0, 5), MistletoeCourt.OUTSIDE);
        CHECK.due("as(0, -1)", court.as(0, -1), MistletoeCourt.OUTSIDE);
        CHECK.due("as(5, 0)", court.as(5, 0), MistletoeCourt.UNKNOWN);
        CHECK.due("as(-1, 5)", court.as(-1, 5), MistletoeCourt.UNKNOWN);
    }

    private static void rightings() {
        MistletoeCourt court = Check.read("99,99;c11-,c120,c131,c140,c15-,c164,c171");
        for (int suit = 0; suit < 7; suit++) {
            CHECK.due("right(" + suit + ", 0)", court.right(suit, 0), 0);
        }
        CHECK.due("berries behind seven", court.tree(0, 0), 2);
        CHECK.due("cases righted", court.count(4), 7);
        CHECK.due("what holds", court.count(5), 28);
        court.walk(1);
        CHECK.due("what hangs on it is reopened", court.right(1, 1), 2);
        CHECK.due("berries of the other tree", court.tree(1, 0), 8);
        CHECK.due("what holds then", court.count(5), 18);
        court.walk(0);
        CHECK.due("straight or by others, if righted", court.right(0, 1), 2);
        CHECK.due("what holds in the end", court.count(5), 12);
        CHECK.due("how often any was righted", court.count(7), 9);
        CHECK.due("what is reopened may be righted", court.right(6, 1), 0);
    }

    private static void refusedRightings() {
        MistletoeCourt court = Check.read("50,60;u31-,c41-");
        CHECK.due("right(2, 0)", court.right(2, 0), MistletoeCourt.UNKNOWN);
        CHECK.due("right(-1, 0)", court.right(-1, 0), MistletoeCourt.UNKNOWN);
        CHECK.due("right(0, 2)", court.right(0, 2), MistletoeCourt.UNKNOWN);
        CHECK.due("right(0, -1)", court.right(0, -1), MistletoeCourt.UNKNOWN);
        CHECK.due("too few berries", court.right(0, 0), MistletoeCourt.STATE);
        CHECK.due("berries are not plucked", court.tree(0, 0), 5);
        CHECK.due("just enough berries", court.right(0, 1), 0);
        CHECK.due("none are left", court.tree(1, 0), 0);
        court.plead(0, 1, 1);
        CHECK.due("it is righted", court.right(0, 0), MistletoeCourt.STATE);
        CHECK.due("how often any was righted", court.count(7), 1);
    }

    private static void oaks() {
        MistletoeCourt court = Check.read("99;c11-,o120,o131,o14-");
        CHECK.due("an oak on none", court.right(3, 0), 0);
        CHECK.due("an oak on one not righted", court.right(1, 0), MistletoeCourt.STATE);
        court.right(0, 0);
        CHECK.due("an oak on an oak not righted", court.right(2, 0), MistletoeCourt.STATE);
        CHECK.due("an oak on one righted", court.right(1, 0), 0);
        CHECK.due("an oak on an oak righted", court.right(2, 0), 0);
        court.walk(0);
        CHECK.due("an oak stays when that on which it hangs goes", court.suit(1, 5), 1);
        court.walk(1);
        CHECK.due("but may not be righted again", court.right(1, 0), MistletoeCourt.STATE);
    }

    private static void years() {
        MistletoeCourt court = Check.read("90,59,67;c11-,c11-");
        CHECK.due("first year", court.year(), 1);
        CHECK.due("no birds", court.tree(0, 0), 9);
        CHECK.due("nine birds", court.tree(1, 0), 14);
        CHECK.due("seven birds", court.tree(2, 0), 13);
        CHECK.due("second year", court.year(), 2);
        CHECK.due("20 at most", court.tree(1, 0), 20);
        CHECK.due("20 just so", court.tree(2, 0), 20);
        for (int year = 3; year <= 400; year++) {
            CHECK.due("year " + year, court.year(), year);
        }
        CHECK.due("20 still", court.tree(2, 0), 20);
        CHECK.due("years", court.count(6), 400);
    }

    private static void birds() {
        MistletoeCourt court = Check.read("03,04;c11-,c11-");
        CHECK.due("birds(1, 9)", court.birds(1, 9), 4);
        CHECK.due("birds(0, 0)", court.birds(0, 0), 3);
        CHECK.due("birds(0, 10)", court.birds(0, 10), MistletoeCourt.OUTSIDE);
        CHECK.due("birds(0, -1)", court.birds(0, -1), MistletoeCourt.OUTSIDE);
        CHECK.due("birds(2, 10)", court.birds(2, 10), MistletoeCourt.UNKNOWN);
        CHECK.due("birds(-1, 1)", court.birds(-1, 1), MistletoeCourt.UNKNOWN);
        CHECK.due("birds of tree 0", court.tree(0, 1), 0);
        CHECK.due("birds of tree 1", court.tree(1, 1), 9);
        court.year();
        CHECK.due("berries of tree 0", court.tree(0, 0), 0);
        CHECK.due("berries of tree 1", court.tree(1, 0), 9);
    }

    private static void pleas() {
        MistletoeCourt court = Check.read("90;c56-,m780");
        CHECK.due("plead(0, 9, 1)", court.plead(0, 9, 1), 6);
        CHECK.due("its need", court.suit(0, 1), 9);
        CHECK.due("its worth", court.suit(0, 2), 1);
        CHECK.due("plead(0, 1, 9)", court.plead(0, 1, 9), 1);
        int[][] outside = {{0, 1}, {10, 1}, {1, 0}, {1, 10}, {-1, -1}};
        for (int[] claim : outside) {
            CHECK.due("plead of " + claim[0] + ", " + claim[1], court.plead(0, claim[0], claim[1]), MistletoeCourt.OUTSIDE);
        }
        CHECK.due("need behind refusals", court.suit(0, 1), 1);
        CHECK.due("worth behind refusals", court.suit(0, 2), 9);
        CHECK.due("plead(2, 0, 0)", court.plead(2, 0, 0), MistletoeCourt.UNKNOWN);
        CHECK.due("plead(-1, 1, 1)", court.plead(-1, 1, 1), MistletoeCourt.UNKNOWN);
        court.right(0, 0);
        CHECK.due("the new need is plucked", court.tree(0, 0), 8);
        court.plead(0, 3, 4);
        CHECK.due("a righted one has another worth", court.count(5), 4);
        CHECK.due("and stays righted", court.suit(0, 5), 1);
    }

    private static void walks() {
        MistletoeCourt court = Check.read("90;c11-,m120,a141");
        CHECK.due("not righted", court.walk(0), MistletoeCourt.STATE);
        court.right(0, 0);
        court.right(1, 0);
        court.right(2, 0);
        CHECK.due("walk(2)", court.walk(2), 3);
        court.right(2, 0);
        CHECK.due("walk(0): nothing else", court.walk(0), 6);
        CHECK.due("what hangs on it stays", court.suit(1, 5), 1);
        CHECK.due("walk(0) again", court.walk(0), MistletoeCourt.STATE);
        CHECK.due("no berries come back", court.tree(0, 0), 5);
        CHECK.due("how often any was righted", court.count(7), 4);
        CHECK.due("walk(3)", court.walk(3), MistletoeCourt.UNKNOWN);
        CHECK.due("walk(-1)", court.walk(-1), MistletoeCourt.UNKNOWN);
        court.walk(1);
        CHECK.due("walk of the last one", court.walk(2), 0);
    }
}
