import java.util.ArrayList;
import java.util.List;

/** The boundary sentences of promises 20 to 23: what is told of all. */
final class WholeBoundaries extends Sentences {

    // ---- promise 20: An IMAGE is kept (one; the latest): how many YEARS there were. STATE: no SHIRE.

    static void promise20NoShireIsState(Check check) {
        MistletoeCourt court = new MistletoeCourt();
        refused(check, court, "image()", court::image, STATE);
        check.due("no image is kept by it", court.restore(), STATE);
        Check.type(court, SHORTEST);
        refused(check, court, "image() with a page that is not read", court::image, STATE);
    }

    static void promise20ItTellsNoughtAheadOfTheFirstYear(Check check) {
        check.due("image()", Check.read(SHORTEST).image(), 0);
    }

    static void promise20ItTellsHowManyYearsThereWere(Check check) {
        MistletoeCourt court = Check.read(SHORTEST);
        court.year();
        check.due("image()", court.image(), 1);
        years(court, 2);
        check.due("image() later", court.image(), 3);
    }

    static void promise20ItChangesNothing(Check check) {
        MistletoeCourt court = righted("95;c11-,c120", 0);
        long before = court.digest();
        court.image();
        check.due("digest()", court.digest(), before);
    }

    static void promise20TheLatestAloneIsKept(Check check) {
        MistletoeCourt court = Check.read("95;c11-,c120");
        court.image();
        court.year();
        court.right(0, 0);
        court.image();
        court.year();
        check.due("restore()", court.restore(), 1);
        check.due("restore() again", court.restore(), 1);
        check.due("righted", court.count(4), 1);
    }

    static void promise20WhatIsDoneBehindItIsNotInIt(Check check) {
        MistletoeCourt court = Check.read("95;c11-,c120");
        long before = court.digest();
        court.image();
        changeAll(court);
        court.restore();
        check.due("digest() behind a restore", court.digest(), before);
        changeAll(court);
        court.restore();
        check.due("digest() behind another restore", court.digest(), before);
    }

    private static void changeAll(MistletoeCourt court) {
        court.right(1, 0);
        court.right(0, 0);
        court.year();
        court.birds(0, 7);
        court.plead(0, 3, 8);
        court.plead(1, 4, 7);
        court.see(0, 3, false);
        court.see(1, 9, true);
    }

    // ---- promise 21: It goes on from the IMAGE. STATE: none was kept, or a SHIRE was read since.

    static void promise21NoImageIsState(Check check) {
        MistletoeCourt none = new MistletoeCourt();
        refused(check, none, "restore() without a shire", none::restore, STATE);
        MistletoeCourt court = Check.read(SHORTEST);
        refused(check, court, "restore() with a shire", court::restore, STATE);
    }

    static void promise21BehindAnotherShireIsState(Check check) {
        MistletoeCourt court = Check.read("95;c11-,c120");
        court.image();
        Check.type(court, LONGEST);
        court.shire();
        refused(check, court, "restore()", court::restore, STATE);
        check.due("cases", court.count(1), 7);
    }

    static void promise21BehindTheSameTextIsState(Check check) {
        MistletoeCourt court = Check.read(SHORTEST);
        court.image();
        Check.type(court, SHORTEST);
        court.shire();
        refused(check, court, "restore()", court::restore, STATE);
        check.due("another image", court.image(), 0);
        check.due("restore() of it", court.restore(), 0);
    }

    static void promise21BehindAShireThatWasRefusedItGoesOn(Check check) {
        MistletoeCourt court = Check.read(SHORTEST);
        court.image();
        court.shire();
        Check.type(court, "00;c11-");
        court.shire();
        check.due("restore()", court.restore(), 0);
    }

    static void promise21WhileAShireIsOnlyOnThePageItGoesOn(Check check) {
        MistletoeCourt court = Check.read(SHORTEST);
        court.image();
        Check.type(court, SHORTEST);
        check.due("restore()", court.restore(), 0);
        check.due("the page stays", court.count(9), 12);
    }

    static void promise21ItTellsYearsAsTheyWereKept(Check check) {
        MistletoeCourt court = Check.read(SHORTEST);
        years(court, 3);
        court.image();
        years(court, 4);
        check.due("restore()", court.restore(), 3);
        check.due("years", court.count(6), 3);
        check.due("year()", court.year(), 4);
    }

    static void promise21ItGoesOnAsOftenAsIsAsked(Check check) {
        MistletoeCourt court = Check.read(SHORTEST);
        court.year();
        court.image();
        for (int time = 0; time < 3; time++) {
            court.year();
            check.due("restore()", court.restore(), 1);
        }
    }

    static void promise21BerriesAreAsKept(Check check) {
        MistletoeCourt court = Check.read("12,34,56;c11-,c11-");
        court.image();
        court.year();
        court.right(0, 2);
        court.restore();
        check.due("tree 0", court.tree(0, 0), 1);
        check.due("tree 1", court.tree(1, 0), 3);
        check.due("tree 2", court.tree(2, 0), 5);
    }

    static void promise21BirdsAreAsKept(Check check) {
        MistletoeCourt court = Check.read("12,34,56;c11-,c11-");
        court.birds(1, 7);
        court.image();
        court.birds(0, 0);
        court.birds(1, 0);
        court.birds(2, 0);
        court.restore();
        check.due("tree 0", court.tree(0, 1), 2);
        check.due("tree 1", court.tree(1, 1), 7);
        check.due("tree 2", court.tree(2, 1), 6);
    }

    static void promise21NeedsAndWorthAreAsKept(Check check) {
        MistletoeCourt court = Check.read("00;c12-,c34-,c56-,c78-,c91-,c23-,c45-");
        court.plead(6, 8, 9);
        court.image();
        for (int suit = 0; suit < 7; suit++) {
            court.plead(suit, 1, 1);
        }
        court.restore();
        int[][] due = {{1, 2}, {3, 4}, {5, 6}, {7, 8}, {9, 1}, {2, 3}, {8, 9}};
        for (int suit = 0; suit < 7; suit++) {
            check.due("need of " + suit, court.suit(suit, 1), due[suit][0]);
            check.due("worth of " + suit, court.suit(suit, 2), due[suit][1]);
        }
    }

    static void promise21WhatIsRightedIsAsKept(Check check) {
        MistletoeCourt court = righted("90;c11-,c11-,c11-", 0, 1);
        court.image();
        court.walk(0);
        court.right(2, 0);
        court.restore();
        check.due("case 0", court.suit(0, 5), 1);
        check.due("case 1", court.suit(1, 5), 1);
        check.due("case 2", court.suit(2, 5), 0);
    }

    static void promise21HowOftenAnyWasRightedIsAsKept(Check check) {
        MistletoeCourt court = righted("90;c11-,c11-,c11-", 0, 1);
        court.image();
        court.right(2, 0);
        check.due("how often", court.count(7), 3);
        court.restore();
        check.due("how often as kept", court.count(7), 2);
    }

    static void promise21WhatIsSeenIsAsKept(Check check) {
        MistletoeCourt court = Check.read(SHORTEST);
        for (int number = 1; number <= 7; number++) {
            court.see(0, 9, true);
        }
        court.see(1, 3, false);
        court.image();
        court.forget();
        // Other cases, other berries, and the other way, at each of the eight.
        for (int number = 1; number <= 7; number++) {
            court.see(1, 2, false);
        }
        court.see(0, 5, true);
        court.restore();
        check.due("seen", court.count(8), 8);
        check.due("of case 0", court.suit(0, 8), 511);
        check.due("of case 1", court.suit(1, 8), 504);
        check.due("a ninth", court.see(0, 1, true), FULL);
    }

    static void promise21NothingSeenIsAsKept(Check check) {
        MistletoeCourt court = Check.read(SHORTEST);
        court.image();
        court.see(0, 1, true);
        court.restore();
        check.due("seen", court.count(8), 0);
        check.due("of case 0", court.suit(0, 8), 511);
    }

    static void promise21ThePageIsNotKept(Check check) {
        MistletoeCourt court = Check.read(SHORTEST);
        Check.type(court, "12");
        court.image();
        court.letter(';');
        court.restore();
        check.due("letters", court.count(9), 3);
    }

    static void promise21ReadingsAndPlansAreNotKept(Check check) {
        MistletoeCourt court = Check.read(SHORTEST);
        court.image();
        court.plan(0);
        court.restore();
        check.due("readings", court.count(10), 1);
        check.due("plans", court.count(11), 1);
    }

    // ---- promise 22: How many: 0 to 11. OUTSIDE.

    static void promise22WhatBelow0IsOutside(Check check) {
        MistletoeCourt court = Check.read(LONGEST);
        refused(check, court, "count(-1)", () -> court.count(-1), OUTSIDE);
        refused(check, court, "count(least)", () -> court.count(LEAST), OUTSIDE);
        check.due("without a shire", new MistletoeCourt().count(-1), OUTSIDE);
    }

    static void promise22WhatAbove11IsOutside(Check check) {
        MistletoeCourt court = Check.read(LONGEST);
        refused(check, court, "count(12)", () -> court.count(12), OUTSIDE);
        refused(check, court, "count(most)", () -> court.count(MOST), OUTSIDE);
        check.due("without a shire", new MistletoeCourt().count(12), OUTSIDE);
    }

    static void promise22TreesAre1To3AndCases2To7(Check check) {
        check.due("fewest trees", Check.read(SHORTEST).count(0), 1);
        check.due("fewest cases", Check.read(SHORTEST).count(1), 2);
        check.due("most trees", Check.read(LONGEST).count(0), 3);
        check.due("most cases", Check.read(LONGEST).count(1), 7);
    }

    static void promise22BerriesOfAllGoTo60(Check check) {
        MistletoeCourt court = Check.read("09,19,99;c11-,c11-");
        check.due("at first", court.count(2), 10);
        years(court, 3);
        check.due("most", court.count(2), 60);
        check.due("none", Check.read("09,09,09;c11-,c11-").count(2), 0);
    }

    static void promise22BirdsOfAllGoTo27(Check check) {
        check.due("most", Check.read("09,09,09;c11-,c11-").count(3), 27);
        check.due("none", Check.read("90,90,90;c11-,c11-").count(3), 0);
    }

    static void promise22RightedOnesGoTo7(Check check) {
        MistletoeCourt court = Check.read("90;c11-,c110,c111,c112,c113,c114,c115");
        for (int suit = 0; suit < 7; suit++) {
            check.due("righted", court.count(4), suit);
            court.right(suit, 0);
        }
        check.due("all", court.count(4), 7);
    }

    static void promise22WhatHoldsGoesTo63(Check check) {
        check.due("none", Check.read(LONGEST).count(5), 0);
        check.due("all", righted("90;c19-,c19-,c19-,c19-,c19-,c19-,c19-", 0, 1, 2, 3, 4, 5, 6).count(5), 63);
    }

    static void promise22HowOftenAnyWasRightedDoesNotGoBack(Check check) {
        MistletoeCourt court = righted("90;c11-,c110", 1, 0);
        court.walk(0);
        check.due("righted", court.count(4), 0);
        check.due("how often", court.count(7), 2);
    }

    static void promise22SeenGoesTo8(Check check) {
        MistletoeCourt court = Check.read(SHORTEST);
        check.due("none", court.count(8), 0);
        for (int number = 1; number <= 9; number++) {
            court.see(1, 1, true);
        }
        check.due("most", court.count(8), 8);
    }

    static void promise22LettersGoTo46(Check check) {
        MistletoeCourt court = Check.read(SHORTEST);
        check.due("none", court.count(9), 0);
        Check.type(court, "x".repeat(50));
        check.due("most", court.count(9), 46);
    }

    static void promise22AShireThatWasRefusedIsNotRead(Check check) {
        MistletoeCourt court = new MistletoeCourt();
        court.shire();
        Check.type(court, "00;c11-");
        court.shire();
        check.due("none", court.count(10), 0);
        Check.type(court, ",c11-");
        court.shire();
        check.due("one", court.count(10), 1);
        Check.type(court, SHORTEST);
        court.shire();
        check.due("two", court.count(10), 2);
    }

    static void promise22PlansGoTo20(Check check) {
        MistletoeCourt court = Check.read(SHORTEST);
        for (int number = 1; number <= 25; number++) {
            court.plan(0);
        }
        check.due("most", court.count(11), 20);
    }

    // ---- promise 23: h is 1229, then 31 times h, and it (as longs, wrapping).

    private static long digestOf(MistletoeCourt court, String page) {
        List<Integer> numbers = new ArrayList<>();
        for (int tree = 0; tree < court.count(0); tree++) {
            numbers.addAll(List.of(court.tree(tree, 0), court.tree(tree, 1), court.tree(tree, 2)));
            numbers.addAll(List.of(court.game(tree, 0), court.game(tree, 1)));
        }
        for (int suit = 0; suit < court.count(1); suit++) {
            for (int what = 0; what <= 9; what++) {
                numbers.add(court.suit(suit, what));
            }
            numbers.addAll(List.of(court.odds(suit, 0, 2, 0), court.odds(suit, 0, 2, 1)));
        }
        for (char letter : page.toCharArray()) {
            numbers.add((int) letter);
        }
        for (int what = 0; what <= 11; what++) {
            numbers.add(court.count(what));
        }
        long h = 1229;
        for (int number : numbers) {
            h = 31 * h + number;
        }
        return h;
    }

    static void promise23OfNothingItIs12NoughtsBehind1229(Check check) {
        MistletoeCourt court = new MistletoeCourt();
        long h = 1229;
        for (int what = 0; what <= 11; what++) {
            h *= 31;
        }
        check.due("digest()", court.digest(), h);
    }

    static void promise23OfTheLeastShire(Check check) {
        MistletoeCourt court = Check.read(SHORTEST);
        check.due("digest()", court.digest(), digestOf(court, ""));
    }

    static void promise23OfTheGreatestShireAndPageItWraps(Check check) {
        MistletoeCourt court = Check.read("99,98,97;a19-,m990,o981,c972,u963,a954,m945");
        court.right(0, 1);
        court.right(1, 0);
        court.year();
        court.see(2, 5, false);
        court.see(3, 9, false);
        court.plan(16);
        String page = "~ 0".repeat(15) + "z";
        Check.type(court, page);
        check.due("letters", court.count(9), 46);
        check.due("digest()", court.digest(), digestOf(court, page));
    }

    static void promise23NoneCountsAsItIs(Check check) {
        // No case can be righted, and no need is left: game, hangs and try are NONE.
        MistletoeCourt court = Check.read("00;c91-,c91-");
        court.see(0, 9, false);
        check.due("game", court.game(0, 1), NONE);
        check.due("try", court.suit(0, 9), NONE);
        check.due("digest()", court.digest(), digestOf(court, ""));
    }

    static void promise23LettersCountByTheirCodesInOrder(Check check) {
        MistletoeCourt court = new MistletoeCourt();
        Check.type(court, " ~");
        check.due("digest()", court.digest(), digestOf(court, " ~"));
        MistletoeCourt other = new MistletoeCourt();
        Check.type(other, "~ ");
        check.due("digest() of another order", other.digest(), digestOf(other, "~ "));
    }

    static void promise23LettersThatAreGoneDoNotCount(Check check) {
        MistletoeCourt court = new MistletoeCourt();
        Check.type(court, "xyz");
        court.blank();
        court.letter('a');
        check.due("digest()", court.digest(), digestOf(court, "a"));
    }

    static void promise23OddsAreThoseAtTree0In2Years(Check check) {
        MistletoeCourt court = Check.read("01,02,03;c11-,c21-");
        check.due("digest()", court.digest(), digestOf(court, ""));
    }

    static void promise23ItChangesNothing(Check check) {
        MistletoeCourt court = righted("95;c11-,c120", 0);
        court.image();
        long first = court.digest();
        check.due("digest() again", court.digest(), first);
        check.due("plans", court.count(11), 0);
        check.due("years", court.count(6), 0);
        check.due("restore()", court.restore(), 0);
    }
}
