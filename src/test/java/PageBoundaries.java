/** The boundary sentences of promises 1 to 5: a new object, the page, and what is a shire. */
final class PageBoundaries extends Sentences {
    private static final String DIGITS = "0123456789";
    private static final String KINDS = "cmuoa";

    // ---- promise 1: No SHIRE.

    static void promise01EachCountIsNought(Check check) {
        for (int what = 0; what <= 11; what++) {
            check.due("count(" + what + ")", new MistletoeCourt().count(what), 0);
        }
    }

    static void promise01NoTreeIsThere(Check check) {
        MistletoeCourt court = new MistletoeCourt();
        check.due("tree(0, 0)", court.tree(0, 0), UNKNOWN);
        check.due("birds(0, 0)", court.birds(0, 0), UNKNOWN);
        check.due("game(0, 0)", court.game(0, 0), UNKNOWN);
    }

    static void promise01NoCaseIsThere(Check check) {
        MistletoeCourt court = new MistletoeCourt();
        check.due("suit(0, 0)", court.suit(0, 0), UNKNOWN);
        check.due("as(0, 0)", court.as(0, 0), UNKNOWN);
        check.due("right(0, 0)", court.right(0, 0), UNKNOWN);
        check.due("plead(0, 1, 1)", court.plead(0, 1, 1), UNKNOWN);
        check.due("walk(0)", court.walk(0), UNKNOWN);
        check.due("odds(0, 0, 1, 0)", court.odds(0, 0, 1, 0), UNKNOWN);
        check.due("see(0, 1, true)", court.see(0, 1, true), UNKNOWN);
    }

    static void promise01WhatNeedsAShireIsState(Check check) {
        MistletoeCourt court = new MistletoeCourt();
        check.due("year()", court.year(), STATE);
        check.due("plan(0)", court.plan(0), STATE);
        check.due("centuries(1, 0, 0)", court.centuries(1, 0, 0), STATE);
        check.due("image()", court.image(), STATE);
        check.due("restore()", court.restore(), STATE);
    }

    static void promise01ThePageIsEmpty(Check check) {
        MistletoeCourt court = new MistletoeCourt();
        check.due("fault()", court.fault(), 0);
        check.due("shire()", court.shire(), STATE);
        check.due("blank()", court.blank(), 0);
    }

    static void promise01NothingIsSeen(Check check) {
        check.due("forget()", new MistletoeCourt().forget(), 0);
    }

    static void promise01ObjectsShareNothing(Check check) {
        MistletoeCourt first = Check.read(LONGEST);
        MistletoeCourt second = new MistletoeCourt();
        first.letter('x');
        check.due("cases of the second", second.count(1), 0);
        check.due("letters of the second", second.count(9), 0);
        check.due("letters of the first", first.count(9), 1);
    }

    // ---- promise 2: OUTSIDE: code (32 to 126); FULL: above 46.

    static void promise02TheFirstLetterIsOne(Check check) {
        check.due("letter('0')", new MistletoeCourt().letter('0'), 1);
    }

    static void promise02Code31IsOutside(Check check) {
        MistletoeCourt court = new MistletoeCourt();
        refused(check, court, "letter(31)", () -> court.letter(31), OUTSIDE);
    }

    static void promise02Code32IsTheLeast(Check check) {
        check.due("letter(32)", new MistletoeCourt().letter(32), 1);
    }

    static void promise02Code126IsTheGreatest(Check check) {
        check.due("letter(126)", new MistletoeCourt().letter(126), 1);
    }

    static void promise02Code127IsOutside(Check check) {
        MistletoeCourt court = new MistletoeCourt();
        refused(check, court, "letter(127)", () -> court.letter(127), OUTSIDE);
    }

    static void promise02FarCodesAreOutside(Check check) {
        // Some of these would be digits if only their lowest bits were looked at.
        for (int code : new int[] {LEAST, -32, -1, 0, 10, 128, 256 + '0', 65536 + '0', MOST}) {
            MistletoeCourt court = new MistletoeCourt();
            refused(check, court, "letter(" + code + ")", () -> court.letter(code), OUTSIDE);
        }
    }

    static void promise02EachCodeBetweenIsTaken(Check check) {
        for (int code = 32; code <= 126; code++) {
            MistletoeCourt court = new MistletoeCourt();
            check.due("letter(" + code + ")", court.letter(code), 1);
            check.due("the code in the digest", court.digest(), (1229L * 31 + code) * pageless() + 1 * 31 * 31);
        }
    }

    /** 31 to the 12: the twelve counts come behind the letters, and the letters are counted as the tenth. */
    private static long pageless() {
        long power = 1;
        for (int count = 0; count < 12; count++) {
            power *= 31;
        }
        return power;
    }

    static void promise02Letter46IsTaken(Check check) {
        MistletoeCourt court = new MistletoeCourt();
        for (int number = 1; number <= 46; number++) {
            check.due("letter number " + number, court.letter('9'), number);
        }
    }

    static void promise02Letter47IsFull(Check check) {
        MistletoeCourt court = fullPage();
        refused(check, court, "letter number 47", () -> court.letter('9'), FULL);
        refused(check, court, "letter number 47 again", () -> court.letter('9'), FULL);
    }

    static void promise02OutsideComesBeforeFull(Check check) {
        MistletoeCourt court = fullPage();
        refused(check, court, "letter(31)", () -> court.letter(31), OUTSIDE);
        refused(check, court, "letter(127)", () -> court.letter(127), OUTSIDE);
    }

    static void promise02AFullPageHasRoomBehindBlank(Check check) {
        MistletoeCourt court = fullPage();
        court.blank();
        check.due("letter", court.letter('9'), 1);
    }

    static void promise02ThereIsRoomBehindAShire(Check check) {
        MistletoeCourt court = Check.read(LONGEST);
        for (int number = 1; number <= 46; number++) {
            check.due("letter number " + number, court.letter('9'), number);
        }
        check.due("letter number 47", court.letter('9'), FULL);
    }

    static void promise02ALetterComesBehindTheOthers(Check check) {
        MistletoeCourt court = new MistletoeCourt();
        Check.type(court, "12;c34-,c560");
        court.shire();
        check.due("berries", court.tree(0, 0), 1);
        check.due("birds", court.tree(0, 1), 2);
        check.due("need", court.suit(1, 1), 5);
        check.due("worth", court.suit(1, 2), 6);
    }

    private static MistletoeCourt fullPage() {
        MistletoeCourt court = new MistletoeCourt();
        Check.type(court, "9".repeat(46));
        return court;
    }

    // ---- promise 3: THE PAGE is empty: how many letters it had.

    static void promise03OfAnEmptyPageItIsNought(Check check) {
        MistletoeCourt court = new MistletoeCourt();
        check.due("blank()", court.blank(), 0);
        check.due("blank() again", court.blank(), 0);
    }

    static void promise03OfOneLetterItIsOne(Check check) {
        MistletoeCourt court = new MistletoeCourt();
        court.letter('x');
        check.due("blank()", court.blank(), 1);
        check.due("blank() again", court.blank(), 0);
    }

    static void promise03OfAFullPageItIs46(Check check) {
        MistletoeCourt court = fullPage();
        court.letter('9');
        check.due("blank()", court.blank(), 46);
    }

    static void promise03ThePageIsEmptyThen(Check check) {
        MistletoeCourt court = new MistletoeCourt();
        Check.type(court, SHORTEST);
        court.blank();
        check.due("letters", court.count(9), 0);
        check.due("fault()", court.fault(), 0);
        check.due("shire()", court.shire(), STATE);
        check.due("digest()", court.digest(), new MistletoeCourt().digest());
    }

    static void promise03NothingOfTheOldLettersStays(Check check) {
        MistletoeCourt court = new MistletoeCourt();
        Check.type(court, LONGEST);
        court.blank();
        Check.type(court, "00;c11-");
        check.due("shire()", court.shire(), STATE);
        check.due("fault()", court.fault(), 7);
    }

    static void promise03TheShireStays(Check check) {
        MistletoeCourt court = righted("20;c15-,c16-", 0);
        long before = court.digest();
        court.letter('x');
        court.blank();
        check.due("digest()", court.digest(), before);
    }

    static void promise03BehindAShireItIsNought(Check check) {
        check.due("blank()", Check.read(SHORTEST).blank(), 0);
    }

    // ---- promise 4: which letters a SHIRE can have behind those ahead.

    /** Of all codes just these are no fault behind this text. */
    private static void followed(Check check, String ahead, String allowed) {
        for (int code = 32; code <= 126; code++) {
            MistletoeCourt court = new MistletoeCourt();
            Check.type(court, ahead);
            court.letter(code);
            int due = allowed.indexOf(code) >= 0 ? ahead.length() + 1 : ahead.length();
            check.due("fault of " + ahead + (char) code, court.fault(), due);
        }
    }

    static void promise04TheFirstLetterIsBerries0To9(Check check) {
        followed(check, "", DIGITS);
    }

    static void promise04TheSecondLetterIsBirds0To9(Check check) {
        followed(check, "0", DIGITS);
    }

    static void promise04BehindTheFirstTreeIsAnotherOrTheEnd(Check check) {
        followed(check, "00", ",;");
    }

    static void promise04TheSecondTreeHasBerriesAndBirds(Check check) {
        followed(check, "00,", DIGITS);
        followed(check, "00,9", DIGITS);
    }

    static void promise04BehindTheSecondTreeIsAnotherOrTheEnd(Check check) {
        followed(check, "00,99", ",;");
    }

    static void promise04TheThirdTreeHasBerriesAndBirds(Check check) {
        followed(check, "00,99,", DIGITS);
        followed(check, "00,99,0", DIGITS);
    }

    static void promise04BehindTheThirdTreeIsNoFourth(Check check) {
        followed(check, "00,99,09", ";");
    }

    static void promise04BehindTheTreesIsAKind(Check check) {
        followed(check, "00;", KINDS);
        followed(check, "00,00;", KINDS);
        followed(check, "00,00,00;", KINDS);
    }

    static void promise04TheNeedIs1To9(Check check) {
        for (char kind : KINDS.toCharArray()) {
            followed(check, "00;" + kind, "123456789");
        }
    }

    static void promise04TheWorthIs1To9(Check check) {
        followed(check, "00;c1", "123456789");
        followed(check, "00;a9", "123456789");
    }

    static void promise04Case0HangsOnNone(Check check) {
        for (char kind : KINDS.toCharArray()) {
            followed(check, "00;" + kind + "11", "-");
        }
    }

    static void promise04BehindCase0IsAnother(Check check) {
        followed(check, "00;c11-", ",");
        followed(check, "00;c11-,", KINDS);
    }

    static void promise04ACaseHangsOnOneAheadOfItOrNone(Check check) {
        String ahead = "00;c11-";
        for (int suit = 1; suit < 7; suit++) {
            followed(check, ahead + ",o99", "-" + DIGITS.substring(0, suit));
            ahead += ",c11-";
        }
    }

    static void promise04BehindCases1To5IsAnother(Check check) {
        String ahead = "00;c11-";
        for (int suit = 1; suit < 6; suit++) {
            ahead += ",m11" + (suit - 1);
            followed(check, ahead, ",");
        }
    }

    static void promise04BehindCase6IsNothing(Check check) {
        followed(check, LONGEST, "");
        followed(check, "00;c11-,c11-,c11-,c11-,c11-,c11-,c11-", "");
    }

    static void promise04AnEmptyPageHasNone(Check check) {
        check.due("fault()", new MistletoeCourt().fault(), 0);
    }

    static void promise04AShireHasNone(Check check) {
        fault(check, SHORTEST, 12);
        fault(check, LONGEST, 43);
    }

    static void promise04WhatCanBecomeAShireHasNone(Check check) {
        for (int size = 0; size <= LONGEST.length(); size++) {
            fault(check, LONGEST.substring(0, size), size);
        }
    }

    static void promise04TheFirstOfSeveralIsTold(Check check) {
        fault(check, "xyz", 0);
        fault(check, "0xyz", 1);
        fault(check, "00;x1x-", 3);
        fault(check, "00;c11-,c112,x", 11);
    }

    static void promise04WhatIsBehindAFaultIsNotLookedAt(Check check) {
        fault(check, "x" + SHORTEST, 0);
        fault(check, "00,00,00,00;c11-,c11-", 8);
        fault(check, "000;c11-,c11-", 2);
    }

    static void promise04AFaultIsToldByItsPlaceInAFullPage(Check check) {
        fault(check, LONGEST + "xxx", 43);
        fault(check, "9".repeat(46), 2);
        fault(check, "x".repeat(46), 0);
    }

    static void promise04ItChangesNothing(Check check) {
        MistletoeCourt court = Check.read(SHORTEST);
        Check.type(court, "00;c11-x");
        long before = court.digest();
        check.due("fault()", court.fault(), 7);
        check.due("digest()", court.digest(), before);
        check.due("fault() again", court.fault(), 7);
    }

    private static void fault(Check check, String text, int due) {
        MistletoeCourt court = new MistletoeCourt();
        Check.type(court, text);
        check.due("fault of " + text, court.fault(), due);
    }

    // ---- promise 5: one to three TREES, two to seven CASES; STATE: it is none.

    private static void shire(Check check, String text, int due) {
        MistletoeCourt court = new MistletoeCourt();
        Check.type(court, text);
        check.due("shire of " + text, court.shire(), due);
    }

    static void promise05TwoCasesAreTheFewest(Check check) {
        shire(check, SHORTEST, 2);
    }

    static void promise05OneCaseIsTooFew(Check check) {
        shire(check, "00;c11-", STATE);
    }

    static void promise05SevenCasesAreTheMost(Check check) {
        shire(check, LONGEST, 7);
    }

    static void promise05EightCasesAreTooMany(Check check) {
        shire(check, "00;c11-,c11-,c11-,c11-,c11-,c11-,c11-,c11-", STATE);
        shire(check, "00;c11-,c11-,c11-,c11-,c11-,c11-,c11-,", STATE);
    }

    static void promise05EachNumberOfCasesBetween(Check check) {
        String text = "00;c11-";
        for (int cases = 2; cases <= 7; cases++) {
            text += ",c11-";
            shire(check, text, cases);
        }
    }

    static void promise05OneTreeIsTheFewest(Check check) {
        check.due("trees", Check.read(SHORTEST).count(0), 1);
        shire(check, ";c11-,c11-", STATE);
        shire(check, "c11-,c11-", STATE);
    }

    static void promise05ThreeTreesAreTheMost(Check check) {
        check.due("two trees", Check.read("00,00;c11-,c11-").count(0), 2);
        check.due("three trees", Check.read("00,00,00;c11-,c11-").count(0), 3);
        shire(check, "00,00,00,00;c11-,c11-", STATE);
    }

    static void promise05AnEmptyPageIsNone(Check check) {
        MistletoeCourt court = new MistletoeCourt();
        refused(check, court, "shire()", court::shire, STATE);
    }

    static void promise05WhatOnlyBeginsAsOneIsNone(Check check) {
        // It is one behind each case but the first, at every fifth place from 18 on.
        for (int size = 0; size < LONGEST.length(); size++) {
            boolean isWhole = size >= 18 && (size - 18) % 5 == 0;
            shire(check, LONGEST.substring(0, size), isWhole ? 2 + (size - 18) / 5 : STATE);
        }
    }

    static void promise05OneLetterMoreIsNone(Check check) {
        for (char letter : ", -0;x".toCharArray()) {
            shire(check, SHORTEST + letter, STATE);
            shire(check, LONGEST + letter, STATE);
        }
    }

    static void promise05ACaseThatHangsOnItselfOrOneBehindIsNone(Check check) {
        shire(check, "00;c110,c11-", STATE);
        shire(check, "00;c11-,c111", STATE);
        shire(check, "00;c11-,c112,c11-", STATE);
        shire(check, "00;c11-,c11-,c11-,c11-,c11-,c11-,c116", STATE);
    }

    static void promise05ANeedOrWorthOf0IsNone(Check check) {
        shire(check, "00;c01-,c11-", STATE);
        shire(check, "00;c10-,c11-", STATE);
    }

    static void promise05DigitsFrom0To9AreRead(Check check) {
        MistletoeCourt court = Check.read("09,90,18;c19-,c91-");
        int[][] trees = {{0, 9}, {9, 0}, {1, 8}};
        for (int tree = 0; tree < 3; tree++) {
            check.due("berries of " + tree, court.tree(tree, 0), trees[tree][0]);
            check.due("birds of " + tree, court.tree(tree, 1), trees[tree][1]);
        }
        check.due("need 1", court.suit(0, 1), 1);
        check.due("worth 9", court.suit(0, 2), 9);
        check.due("need 9", court.suit(1, 1), 9);
        check.due("worth 1", court.suit(1, 2), 1);
    }

    static void promise05EachKindIsToldByItsLetter(Check check) {
        MistletoeCourt court = Check.read("00;c11-,m11-,u11-,o11-,a11-");
        for (int kind = 0; kind < 5; kind++) {
            check.due("kind " + kind, court.suit(kind, 0), kind);
        }
    }

    static void promise05OnWhichOneEachHangsIsRead(Check check) {
        MistletoeCourt chain = Check.read("00;c11-,c110,c111,c112,c113,c114,c115");
        MistletoeCourt star = Check.read("00;c11-,c110,c110,c110,c110,c110,c110");
        MistletoeCourt none = Check.read("00;c11-,c11-,c11-,c11-,c11-,c11-,c11-");
        for (int suit = 0; suit < 7; suit++) {
            check.due("chain, " + suit, chain.suit(suit, 3), suit - 1);
            check.due("star, " + suit, star.suit(suit, 3), suit == 0 ? NONE : 0);
            check.due("none, " + suit, none.suit(suit, 3), NONE);
        }
    }

    static void promise05ThePageIsEmptyThen(Check check) {
        MistletoeCourt court = Check.read(SHORTEST);
        check.due("letters", court.count(9), 0);
        check.due("fault()", court.fault(), 0);
        check.due("shire() again", court.shire(), STATE);
        check.due("readings", court.count(10), 1);
    }

    static void promise05NoneChangesNothing(Check check) {
        MistletoeCourt court = righted("95;c15-,c16-", 1);
        court.year();
        court.see(0, 3, true);
        court.image();
        Check.type(court, "00;c11-");
        refused(check, court, "shire()", court::shire, STATE);
        check.due("letters", court.count(9), 7);
        check.due("readings", court.count(10), 1);
        check.due("the image is there", court.restore(), 1);
    }

    static void promise05NoCaseIsRightedThen(Check check) {
        MistletoeCourt court = righted("20;c15-,c16-", 0, 1);
        read(court, "20;c15-,c16-");
        check.due("righted", court.count(4), 0);
        check.due("holds", court.count(5), 0);
        check.due("how often any was", court.count(7), 0);
        check.due("berries", court.tree(0, 0), 2);
    }

    static void promise05NoYearWasThen(Check check) {
        MistletoeCourt court = Check.read("25;c15-,c16-");
        years(court, 3);
        read(court, "25;c15-,c16-");
        check.due("years", court.count(6), 0);
        check.due("berries", court.tree(0, 0), 2);
        check.due("year()", court.year(), 1);
    }

    static void promise05NothingIsSeenThen(Check check) {
        MistletoeCourt court = Check.read("25;c15-,c16-");
        for (int number = 0; number < 8; number++) {
            court.see(0, 5, true);
        }
        read(court, "25;c15-,c16-");
        check.due("seen", court.count(8), 0);
        check.due("needs", court.suit(0, 8), 511);
        check.due("see", court.see(0, 5, true), 1);
    }

    static void promise05TheImageIsGoneThen(Check check) {
        MistletoeCourt court = Check.read("25;c15-,c16-");
        court.image();
        read(court, "25;c15-,c16-");
        refused(check, court, "restore()", court::restore, STATE);
    }

    static void promise05PleasAndBirdsAreGoneThen(Check check) {
        MistletoeCourt court = Check.read("25;c15-,c16-");
        court.plead(0, 9, 9);
        court.birds(0, 9);
        read(court, "25;c15-,c16-");
        check.due("need", court.suit(0, 1), 1);
        check.due("worth", court.suit(0, 2), 5);
        check.due("birds", court.tree(0, 1), 5);
    }

    static void promise05WhatTheOldOneHadMoreIsGone(Check check) {
        MistletoeCourt court = Check.read(LONGEST);
        read(court, SHORTEST);
        check.due("tree(1, 0)", court.tree(1, 0), UNKNOWN);
        check.due("suit(2, 0)", court.suit(2, 0), UNKNOWN);
        check.due("berries", court.count(2), 0);
        check.due("birds", court.count(3), 0);
        check.due("what hangs on 0", court.suit(0, 6), 0);
        read(court, LONGEST);
        check.due("cases of a greater one", court.count(1), 7);
        check.due("what hangs on 0 there", court.suit(0, 6), 126);
    }

    static void promise05WhatHungOnAMarriageIsGone(Check check) {
        MistletoeCourt court = Check.read("00;m51-,c110,c110");
        read(court, "00;m51-,c11-,c11-");
        check.due("cost", court.suit(0, 4), 5);
    }

    private static void read(MistletoeCourt court, String text) {
        Check.type(court, text);
        court.shire();
    }
}
