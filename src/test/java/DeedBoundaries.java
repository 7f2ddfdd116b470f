/** The boundary sentences of promises 9 to 13: what is done. */
final class DeedBoundaries extends Sentences {
    private static final String CHAIN = "90;c11-,c110,c111,c112,c113,c114,c115";

    // ---- promise 9: UNKNOWN: suit, tree; STATE: it may not be, or is RIGHTED; FULL: 999 were RIGHTED.

    static void promise09ACaseThatIsNotThereIsUnknown(Check check) {
        MistletoeCourt court = Check.read("90;c11-,c11-");
        for (int suit : new int[] {LEAST, -1, 2, 6, 7, 32, MOST}) {
            refused(check, court, "right(" + suit + ", 0)", () -> court.right(suit, 0), UNKNOWN);
        }
    }

    static void promise09ATreeThatIsNotThereIsUnknown(Check check) {
        MistletoeCourt court = Check.read("90,90;c11-,c11-");
        for (int tree : new int[] {LEAST, -1, 2, 3, MOST}) {
            refused(check, court, "right(0, " + tree + ")", () -> court.right(0, tree), UNKNOWN);
        }
    }

    static void promise09UnknownComesBeforeState(Check check) {
        MistletoeCourt court = righted("10;c11-,c11-", 0);
        refused(check, court, "right(0, 1)", () -> court.right(0, 1), UNKNOWN);
        refused(check, court, "right(2, 0)", () -> court.right(2, 0), UNKNOWN);
        refused(check, court, "right(2, 1)", () -> court.right(2, 1), UNKNOWN);
    }

    static void promise09TheLastCaseAtTheLastTree(Check check) {
        MistletoeCourt court = Check.read("00,00,10;c11-,c11-,c11-,c11-,c11-,c11-,c11-");
        check.due("right(6, 2)", court.right(6, 2), 0);
        check.due("it is righted", court.suit(6, 5), 1);
        check.due("its berries", court.tree(2, 0), 0);
    }

    static void promise09JustEnoughBerriesAreEnough(Check check) {
        MistletoeCourt court = Check.read("90;c91-,c11-");
        check.due("right", court.right(0, 0), 0);
        check.due("none are left", court.tree(0, 0), 0);
    }

    static void promise09OneBerryTooFewIsState(Check check) {
        MistletoeCourt court = Check.read("80;c91-,u51-");
        refused(check, court, "9 of 8", () -> court.right(0, 0), STATE);
        refused(check, court, "10 of 8", () -> court.right(1, 0), STATE);
    }

    static void promise09NoBerriesAreState(Check check) {
        MistletoeCourt court = Check.read("00;m11-,a11-");
        refused(check, court, "1 of 0", () -> court.right(0, 0), STATE);
        refused(check, court, "1 of 0 for an accident", () -> court.right(1, 0), STATE);
    }

    static void promise09BerriesOfOneTreeAloneCount(Check check) {
        MistletoeCourt court = Check.read("20,10;c31-,c11-");
        refused(check, court, "3 of 2 and 1", () -> court.right(0, 0), STATE);
        refused(check, court, "3 of 1 and 2", () -> court.right(0, 1), STATE);
    }

    static void promise09BerriesOfThatTreeAreLessByTheCost(Check check) {
        MistletoeCourt court = Check.read("90,90,90;m51-,a710,u21-");
        court.right(0, 1);
        check.due("the marriage's tree", court.tree(1, 0), 5);
        court.right(1, 2);
        check.due("the accident's tree", court.tree(2, 0), 5);
        court.right(2, 2);
        check.due("the murder's tree", court.tree(2, 0), 1);
        check.due("the tree of none", court.tree(0, 0), 9);
    }

    static void promise09AMurderTakesUpTo18(Check check) {
        MistletoeCourt tooFew = Check.read("89;u91-,c11-");
        MistletoeCourt enough = Check.read("99;u91-,c11-");
        tooFew.year();
        enough.year();
        refused(check, tooFew, "18 of 17", () -> tooFew.right(0, 0), STATE);
        check.due("18 of 18", enough.right(0, 0), 0);
        check.due("none are left", enough.tree(0, 0), 0);
    }

    static void promise09OneThatIsRightedIsState(Check check) {
        MistletoeCourt court = righted("90,90;c11-,c11-", 0);
        refused(check, court, "at the same tree", () -> court.right(0, 0), STATE);
        refused(check, court, "at another tree", () -> court.right(0, 1), STATE);
    }

    static void promise09AnOakOnNoneMayBeRighted(Check check) {
        check.due("right", Check.read("90;o11-,c11-").right(0, 0), 0);
    }

    static void promise09AnOakOnOneNotRightedIsState(Check check) {
        MistletoeCourt court = Check.read("90;c11-,o110,o111");
        refused(check, court, "the oak", () -> court.right(1, 0), STATE);
        court.right(0, 0);
        refused(check, court, "the oak on the oak", () -> court.right(2, 0), STATE);
        check.due("the oak on one that is righted", court.right(1, 0), 0);
        check.due("and the oak on it", court.right(2, 0), 0);
    }

    static void promise09AnOakOnOneRightedNoMoreIsState(Check check) {
        MistletoeCourt court = righted("90;c11-,c110,o111", 1);
        court.right(0, 0);
        refused(check, court, "on one that is reopened", () -> court.right(2, 0), STATE);
        court.right(1, 0);
        court.walk(1);
        refused(check, court, "on one that walked", () -> court.right(2, 0), STATE);
    }

    static void promise09OthersMayBeRightedAheadOfThatOnWhichTheyHang(Check check) {
        MistletoeCourt court = Check.read("90;o11-,c110,m110,u110,a110");
        for (int suit = 1; suit <= 4; suit++) {
            check.due("right(" + suit + ", 0)", court.right(suit, 0), 0);
        }
    }

    static void promise09NoneIsReopenedIfNoneHangs(Check check) {
        MistletoeCourt court = righted("90;c11-,c110,c11-,c110", 1, 2);
        check.due("right(3, 0)", court.right(3, 0), 0);
        check.due("all stay", court.count(4), 3);
    }

    static void promise09NoneIsReopenedIfNoneOfThemIsRighted(Check check) {
        check.due("right(0, 0)", Check.read(CHAIN).right(0, 0), 0);
    }

    static void promise09AllThatHangOnItAreReopened(Check check) {
        MistletoeCourt court = righted("90;c11-,c110,c110,c110,c110,c110,c110", 1, 2, 3, 4, 5, 6);
        check.due("right(0, 0)", court.right(0, 0), 6);
        check.due("it alone is righted", court.count(4), 1);
        check.due("it is", court.suit(0, 5), 1);
    }

    static void promise09AllThatHangOnTheseAreReopenedToo(Check check) {
        MistletoeCourt court = righted("90;c11-,c110,c111,c112,c113,c114,c115", 1, 2, 3, 4, 5, 6);
        check.due("right(0, 0)", court.right(0, 0), 6);
        check.due("what holds", court.count(5), 1);
    }

    static void promise09TheyAreReopenedByOneThatIsNotRighted(Check check) {
        MistletoeCourt court = righted("90;c11-,c110,c111", 2);
        check.due("right(0, 0)", court.right(0, 0), 1);
        check.due("case 2", court.suit(2, 5), 0);
    }

    static void promise09ThatOnWhichItHangsStays(Check check) {
        MistletoeCourt court = righted("90;c11-,c110,c111,c110", 0, 2, 3);
        check.due("right(1, 0)", court.right(1, 0), 1);
        check.due("the one above", court.suit(0, 5), 1);
        check.due("the one below", court.suit(2, 5), 0);
        check.due("the one beside", court.suit(3, 5), 1);
    }

    static void promise09BerriesOfWhatIsReopenedAreGone(Check check) {
        MistletoeCourt court = righted("90;c11-,c210,c311", 1, 2);
        court.right(0, 0);
        check.due("berries", court.tree(0, 0), 3);
        court.right(1, 0);
        check.due("berries behind another righting", court.tree(0, 0), 1);
    }

    static void promise09ItCountsHowOftenAnyWasRighted(Check check) {
        MistletoeCourt court = Check.read("30;c11-,c11-");
        court.right(0, 0);
        check.due("once", court.count(7), 1);
        court.right(0, 0);
        check.due("a refused one does not count", court.count(7), 1);
        court.walk(0);
        court.right(0, 0);
        check.due("once more", court.count(7), 2);
    }

    static void promise09No512CallsAreEverFull(Check check) {
        MistletoeCourt court = Check.read("09;c11-,c11-");
        for (int number = 1; number <= 160; number++) {
            court.year();
            check.due("right number " + number, court.right(0, 0), 0);
            court.walk(0);
        }
        check.due("how often", court.count(7), 160);
    }

    /** These are more than 512 calls, but there is no other way to 999. */
    static void promise09Right1000IsFull(Check check) {
        MistletoeCourt court = Check.read("99;c11-,c91-");
        for (int number = 1; number <= 999; number++) {
            check.due("right number " + number, court.right(0, 0), 0);
            court.walk(0);
            if (number < 999) {
                court.year();
            }
        }
        court.birds(0, 0);
        refused(check, court, "right number 1000", () -> court.right(0, 0), FULL);
        refused(check, court, "unknown comes before full", () -> court.right(2, 0), UNKNOWN);
        refused(check, court, "full for another one, too", () -> court.right(1, 0), FULL);
    }

    static void promise09StateComesBeforeFull(Check check) {
        MistletoeCourt court = Check.read("99;c11-,u91-");
        for (int number = 1; number <= 999; number++) {
            court.right(0, 0);
            if (number < 999) {
                court.walk(0);
                court.year();
            }
        }
        refused(check, court, "one that is righted", () -> court.right(0, 0), STATE);
        MistletoeCourt bare = Check.read("11;c11-,c91-");
        for (int number = 1; number <= 999; number++) {
            bare.right(0, 0);
            bare.walk(0);
            if (number < 999) {
                bare.year();
            }
        }
        refused(check, bare, "too few berries", () -> bare.right(0, 0), STATE);
    }

    // ---- promise 10: A YEAR: which it is. STATE: no SHIRE; FULL: 999 were.

    static void promise10NoShireIsState(Check check) {
        MistletoeCourt court = new MistletoeCourt();
        refused(check, court, "year()", court::year, STATE);
        Check.type(court, SHORTEST);
        refused(check, court, "year() with a page that is not read", court::year, STATE);
    }

    static void promise10TheFirstYearIs1(Check check) {
        MistletoeCourt court = Check.read(SHORTEST);
        check.due("year()", court.year(), 1);
        check.due("year() again", court.year(), 2);
        check.due("years", court.count(6), 2);
    }

    static void promise10TreesHave20AtMost(Check check) {
        // One less than 20, just 20, and one more.
        MistletoeCourt court = Check.read("99,09,29;c11-,c11-");
        court.year();
        check.due("18", court.tree(0, 0), 18);
        check.due("9", court.tree(1, 0), 9);
        check.due("11", court.tree(2, 0), 11);
        court.birds(0, 1);
        court.year();
        check.due("19", court.tree(0, 0), 19);
        check.due("18 of the second", court.tree(1, 0), 18);
        check.due("20 just so", court.tree(2, 0), 20);
        court.year();
        check.due("20 of 19 and 1", court.tree(0, 0), 20);
        check.due("20 of 18 and 9", court.tree(1, 0), 20);
        check.due("20 of 20 and 9", court.tree(2, 0), 20);
    }

    static void promise10WithoutBirdsItBringsNone(Check check) {
        MistletoeCourt court = Check.read("00,90;c11-,c11-");
        years(court, 5);
        check.due("none still", court.tree(0, 0), 0);
        check.due("nine still", court.tree(1, 0), 9);
    }

    static void promise10EachTreeHasItsOwnBirds(Check check) {
        MistletoeCourt court = Check.read("01,02,09;c11-,c11-");
        court.year();
        check.due("tree 0", court.tree(0, 0), 1);
        check.due("tree 1", court.tree(1, 0), 2);
        check.due("tree 2", court.tree(2, 0), 9);
    }

    static void promise10NothingElseChanges(Check check) {
        MistletoeCourt court = righted("90;c11-,c110", 0, 1);
        court.see(0, 1, true);
        court.year();
        check.due("righted", court.count(4), 2);
        check.due("how often", court.count(7), 2);
        check.due("seen", court.count(8), 1);
        check.due("birds", court.count(3), 0);
    }

    static void promise10TheLastOf512CallsIsAnswered(Check check) {
        // Twelve letters and the reading are 13 calls.
        MistletoeCourt court = Check.read(SHORTEST);
        for (int year = 1; year <= 499; year++) {
            check.due("year", court.year(), year);
        }
    }

    /** These are more than 512 calls, but there is no other way to 999. */
    static void promise10Year1000IsFull(Check check) {
        MistletoeCourt court = Check.read("05;c11-,c11-");
        for (int year = 1; year <= 999; year++) {
            check.due("year", court.year(), year);
        }
        for (int berry = 0; berry < 20; berry++) {
            court.right(0, 0);
            court.walk(0);
        }
        refused(check, court, "year 1000", court::year, FULL);
        check.due("years", court.count(6), 999);
    }

    // ---- promise 11: UNKNOWN: tree; OUTSIDE: birds (0 to 9).

    static void promise11ATreeThatIsNotThereIsUnknown(Check check) {
        MistletoeCourt court = Check.read("05,06;c11-,c11-");
        for (int tree : new int[] {LEAST, -1, 2, 3, MOST}) {
            refused(check, court, "birds(" + tree + ", 1)", () -> court.birds(tree, 1), UNKNOWN);
        }
    }

    static void promise11BirdsBelow0AreOutside(Check check) {
        MistletoeCourt court = Check.read("05;c11-,c11-");
        refused(check, court, "birds(0, -1)", () -> court.birds(0, -1), OUTSIDE);
        refused(check, court, "birds(0, least)", () -> court.birds(0, LEAST), OUTSIDE);
    }

    static void promise11BirdsAbove9AreOutside(Check check) {
        MistletoeCourt court = Check.read("05;c11-,c11-");
        refused(check, court, "birds(0, 10)", () -> court.birds(0, 10), OUTSIDE);
        refused(check, court, "birds(0, most)", () -> court.birds(0, MOST), OUTSIDE);
    }

    static void promise11UnknownComesBeforeOutside(Check check) {
        MistletoeCourt court = Check.read("05;c11-,c11-");
        check.due("birds(1, 10)", court.birds(1, 10), UNKNOWN);
        check.due("birds(-1, -1)", court.birds(-1, -1), UNKNOWN);
    }

    static void promise11NoBirdsMayBe(Check check) {
        MistletoeCourt court = Check.read("05;c11-,c11-");
        check.due("birds(0, 0)", court.birds(0, 0), 5);
        check.due("birds", court.tree(0, 1), 0);
        court.year();
        check.due("berries", court.tree(0, 0), 0);
    }

    static void promise11NineBirdsMayBe(Check check) {
        MistletoeCourt court = Check.read("05;c11-,c11-");
        check.due("birds(0, 9)", court.birds(0, 9), 5);
        check.due("birds", court.tree(0, 1), 9);
        court.year();
        check.due("berries", court.tree(0, 0), 9);
    }

    static void promise11ItTellsHowManyThereWere(Check check) {
        MistletoeCourt court = Check.read("00;c11-,c11-");
        check.due("none", court.birds(0, 3), 0);
        check.due("three", court.birds(0, 3), 3);
        check.due("three again", court.birds(0, 9), 3);
        check.due("nine", court.birds(0, 0), 9);
    }

    static void promise11OtherTreesAndBerriesStay(Check check) {
        MistletoeCourt court = Check.read("15,26,37;c11-,c11-");
        court.birds(1, 0);
        check.due("birds of 0", court.tree(0, 1), 5);
        check.due("birds of 2", court.tree(2, 1), 7);
        check.due("birds of all", court.count(3), 12);
        check.due("berries of all", court.count(2), 6);
    }

    static void promise11TheLastTreeMayHaveOthers(Check check) {
        check.due("birds(2, 1)", Check.read("15,26,37;c11-,c11-").birds(2, 1), 7);
    }

    // ---- promise 12: UNKNOWN; OUTSIDE: need, worth (1 to 9).

    static void promise12ACaseThatIsNotThereIsUnknown(Check check) {
        MistletoeCourt court = Check.read("90;c34-,c56-");
        for (int suit : new int[] {LEAST, -1, 2, 6, 7, MOST}) {
            refused(check, court, "plead(" + suit + ", 1, 1)", () -> court.plead(suit, 1, 1), UNKNOWN);
        }
    }

    static void promise12ANeedBelow1IsOutside(Check check) {
        MistletoeCourt court = Check.read("90;c34-,c56-");
        refused(check, court, "plead(0, 0, 1)", () -> court.plead(0, 0, 1), OUTSIDE);
        refused(check, court, "plead(0, least, 1)", () -> court.plead(0, LEAST, 1), OUTSIDE);
    }

    static void promise12ANeedAbove9IsOutside(Check check) {
        MistletoeCourt court = Check.read("90;c34-,c56-");
        refused(check, court, "plead(0, 10, 1)", () -> court.plead(0, 10, 1), OUTSIDE);
        refused(check, court, "plead(0, most, 1)", () -> court.plead(0, MOST, 1), OUTSIDE);
    }

    static void promise12AWorthBelow1IsOutside(Check check) {
        MistletoeCourt court = Check.read("90;c34-,c56-");
        refused(check, court, "plead(0, 1, 0)", () -> court.plead(0, 1, 0), OUTSIDE);
        refused(check, court, "plead(0, 1, least)", () -> court.plead(0, 1, LEAST), OUTSIDE);
    }

    static void promise12AWorthAbove9IsOutside(Check check) {
        MistletoeCourt court = Check.read("90;c34-,c56-");
        refused(check, court, "plead(0, 1, 10)", () -> court.plead(0, 1, 10), OUTSIDE);
        refused(check, court, "plead(0, 1, most)", () -> court.plead(0, 1, MOST), OUTSIDE);
    }

    static void promise12UnknownComesBeforeOutside(Check check) {
        MistletoeCourt court = Check.read("90;c34-,c56-");
        check.due("plead(2, 0, 0)", court.plead(2, 0, 0), UNKNOWN);
        check.due("plead(-1, 10, 10)", court.plead(-1, 10, 10), UNKNOWN);
    }

    static void promise12ANeedMayBe1Or9(Check check) {
        MistletoeCourt court = Check.read("90;c34-,c56-");
        check.due("plead(0, 1, 4)", court.plead(0, 1, 4), 4);
        check.due("need", court.suit(0, 1), 1);
        check.due("plead(0, 9, 4)", court.plead(0, 9, 4), 4);
        check.due("need then", court.suit(0, 1), 9);
        check.due("cost", court.suit(0, 4), 9);
    }

    static void promise12AWorthMayBe1Or9(Check check) {
        MistletoeCourt court = Check.read("90;c34-,c56-");
        check.due("plead(1, 5, 1)", court.plead(1, 5, 1), 6);
        check.due("worth", court.suit(1, 2), 1);
        check.due("plead(1, 5, 9)", court.plead(1, 5, 9), 1);
        check.due("worth then", court.suit(1, 2), 9);
    }

    static void promise12OtherCasesStay(Check check) {
        MistletoeCourt court = Check.read("90;c34-,c56-,c78-");
        court.plead(1, 1, 1);
        check.due("need of 0", court.suit(0, 1), 3);
        check.due("worth of 0", court.suit(0, 2), 4);
        check.due("need of 2", court.suit(2, 1), 7);
        check.due("worth of 2", court.suit(2, 2), 8);
    }

    static void promise12OneThatIsRightedStaysSo(Check check) {
        MistletoeCourt court = righted("90;c34-,c560", 0, 1);
        check.due("plead(0, 9, 9)", court.plead(0, 9, 9), 4);
        check.due("righted", court.count(4), 2);
        check.due("what holds", court.count(5), 15);
        check.due("berries", court.tree(0, 0), 1);
    }

    static void promise12ItTakesNoBerries(Check check) {
        MistletoeCourt court = Check.read("00;c34-,c56-");
        check.due("plead(1, 9, 9)", court.plead(1, 9, 9), 6);
        check.due("berries", court.tree(0, 0), 0);
    }

    // ---- promise 13: a CASE that is RIGHTED is so no more (and nothing else). UNKNOWN; STATE: it is not RIGHTED.

    static void promise13ACaseThatIsNotThereIsUnknown(Check check) {
        MistletoeCourt court = righted("90;c11-,c11-", 0, 1);
        for (int suit : new int[] {LEAST, -1, 2, 6, 7, 32, MOST}) {
            refused(check, court, "walk(" + suit + ")", () -> court.walk(suit), UNKNOWN);
        }
    }

    static void promise13OneThatIsNotRightedIsState(Check check) {
        MistletoeCourt court = righted("90;c11-,c110", 1);
        refused(check, court, "never righted", () -> court.walk(0), STATE);
        court.walk(1);
        refused(check, court, "walked", () -> court.walk(1), STATE);
        court.right(1, 0);
        court.right(0, 0);
        refused(check, court, "reopened", () -> court.walk(1), STATE);
    }

    static void promise13NothingHoldsBehindTheLast(Check check) {
        check.due("walk(0)", righted("90;c19-,c11-", 0).walk(0), 0);
    }

    static void promise13ItTellsWhatHoldsThen(Check check) {
        MistletoeCourt court = righted("90;c19-,c18-,c17-", 0, 1, 2);
        check.due("walk(1)", court.walk(1), 16);
        check.due("walk(2)", court.walk(2), 9);
        check.due("what holds", court.count(5), 9);
    }

    static void promise13NothingIsReopenedByIt(Check check) {
        MistletoeCourt court = righted("90;c19-,c180,o171", 0, 1, 2);
        check.due("walk(0)", court.walk(0), 15);
        check.due("what hangs on it", court.suit(1, 5), 1);
        check.due("walk(1)", court.walk(1), 7);
        check.due("the oak", court.suit(2, 5), 1);
    }

    static void promise13NothingElseChanges(Check check) {
        MistletoeCourt court = righted("95;c39-,c18-", 0, 1);
        court.year();
        court.see(0, 3, true);
        court.walk(0);
        check.due("berries", court.tree(0, 0), 10);
        check.due("how often any was righted", court.count(7), 2);
        check.due("years", court.count(6), 1);
        check.due("seen", court.count(8), 1);
        check.due("the other one", court.suit(1, 5), 1);
    }

    static void promise13TheLastCaseMayWalk(Check check) {
        MistletoeCourt court = righted("90;c11-,c11-,c11-,c11-,c11-,c11-,c11-", 0, 6);
        check.due("walk(6)", court.walk(6), 1);
        check.due("case 6", court.suit(6, 5), 0);
    }
}
