/** The boundary sentences of promises 6 to 8: what is told of trees and of cases. */
final class CaseBoundaries extends Sentences {
    private static final String CHAIN = "90;c11-,c110,c111,c112,c113,c114,c115";

    // ---- promise 6: of a TREE.

    static void promise06ATreeBelow0IsUnknown(Check check) {
        MistletoeCourt court = Check.read(LONGEST);
        refused(check, court, "tree(-1, 0)", () -> court.tree(-1, 0), UNKNOWN);
        refused(check, court, "tree(least, 0)", () -> court.tree(LEAST, 0), UNKNOWN);
    }

    static void promise06ATreeBeyondTheLastIsUnknown(Check check) {
        String[] texts = {"50;c11-,c11-", "50,60;c11-,c11-", "50,60,70;c11-,c11-"};
        for (int trees = 1; trees <= 3; trees++) {
            MistletoeCourt court = Check.read(texts[trees - 1]);
            int beyond = trees;
            check.due("the last of " + trees, court.tree(trees - 1, 0), 4 + trees);
            refused(check, court, "tree(" + trees + ", 0)", () -> court.tree(beyond, 0), UNKNOWN);
            refused(check, court, "tree(most, 0)", () -> court.tree(MOST, 0), UNKNOWN);
        }
    }

    static void promise06WhatBelow0IsOutside(Check check) {
        MistletoeCourt court = Check.read(LONGEST);
        refused(check, court, "tree(0, -1)", () -> court.tree(0, -1), OUTSIDE);
        refused(check, court, "tree(0, least)", () -> court.tree(0, LEAST), OUTSIDE);
    }

    static void promise06WhatAbove2IsOutside(Check check) {
        MistletoeCourt court = Check.read(LONGEST);
        refused(check, court, "tree(2, 3)", () -> court.tree(2, 3), OUTSIDE);
        refused(check, court, "tree(0, most)", () -> court.tree(0, MOST), OUTSIDE);
    }

    static void promise06UnknownComesBeforeOutside(Check check) {
        MistletoeCourt court = Check.read(SHORTEST);
        check.due("tree(1, 3)", court.tree(1, 3), UNKNOWN);
        check.due("tree(-1, -1)", court.tree(-1, -1), UNKNOWN);
    }

    static void promise06BerriesAre0To20(Check check) {
        MistletoeCourt court = Check.read("09,99;u91-,c21-");
        check.due("none", court.tree(0, 0), 0);
        years(court, 3);
        check.due("most", court.tree(1, 0), 20);
        court.right(0, 1);
        court.right(1, 1);
        check.due("none are left", court.tree(1, 0), 0);
    }

    static void promise06BirdsAre0To9(Check check) {
        MistletoeCourt court = Check.read("00,09;c11-,c11-");
        check.due("none", court.tree(0, 1), 0);
        check.due("most", court.tree(1, 1), 9);
    }

    static void promise06NoCaseMayBeRighted(Check check) {
        check.due("no berries", Check.read("09;c11-,a11-").tree(0, 2), 0);
        check.due("all are righted", righted("90;c11-,c11-", 0, 1).tree(0, 2), 0);
    }

    static void promise06EachCaseMayBeRighted(Check check) {
        check.due("seven", Check.read("10;c11-,c11-,c11-,c11-,c11-,c11-,c11-").tree(0, 2), 127);
        check.due("though one hangs on the other", Check.read("10;c11-,c110,c111,c112,c113,c114,c115").tree(0, 2), 127);
        check.due("two", Check.read("10;c11-,c11-").tree(0, 2), 3);
    }

    static void promise06JustEnoughBerriesAreEnough(Check check) {
        check.due("3 of 3, and 4 of 3", Check.read("30;c31-,c41-").tree(0, 2), 1);
        check.due("9 of 9", Check.read("90;c91-,o91-").tree(0, 2), 3);
    }

    static void promise06OneBerryTooFewIsNotEnough(Check check) {
        check.due("9 of 8", Check.read("80;c91-,m91-").tree(0, 2), 0);
        check.due("5 of 4 for an accident", Check.read("40;a91-,c91-").tree(0, 2), 0);
    }

    static void promise06WhatItCostsCounts(Check check) {
        check.due("a marriage", Check.read("10;m31-,c910,c910").tree(0, 2), 1);
        check.due("an accident", Check.read("20;a41-,c91-").tree(0, 2), 1);
        check.due("a murder, just so", Check.read("60;u31-,u41-").tree(0, 2), 1);
    }

    static void promise06ADearMurderNeeds18(Check check) {
        MistletoeCourt tooFew = Check.read("89;u91-,c11-");
        MistletoeCourt enough = Check.read("99;u91-,c11-");
        tooFew.year();
        enough.year();
        check.due("of 17", tooFew.tree(0, 2), 2);
        check.due("of 18", enough.tree(0, 2), 3);
    }

    static void promise06OneThatIsRightedMayNotBe(Check check) {
        check.due("tree(0, 2)", righted("90;c11-,c11-,c11-", 1).tree(0, 2), 5);
    }

    static void promise06OneThatIsRightedNoMoreMayBe(Check check) {
        check.due("reopened", righted("90;c11-,c110", 1, 0).tree(0, 2), 2);
        MistletoeCourt walked = righted("90;c11-,c11-", 0, 1);
        walked.walk(0);
        check.due("walked", walked.tree(0, 2), 1);
    }

    static void promise06AnOakOnNoneMayBe(Check check) {
        check.due("tree(0, 2)", Check.read("10;o11-,o11-").tree(0, 2), 3);
    }

    static void promise06AnOakOnOneThatIsNotRightedMayNotBe(Check check) {
        check.due("never", Check.read("90;c11-,o110,o111").tree(0, 2), 1);
        MistletoeCourt court = righted("90;c11-,o110", 0);
        court.walk(0);
        check.due("no more", court.tree(0, 2), 1);
    }

    static void promise06AnOakOnOneThatIsRightedMayBe(Check check) {
        check.due("straight", righted("90;c11-,o110,o111", 0).tree(0, 2), 2);
        check.due("not by others", righted("90;c11-,c110,o111", 0).tree(0, 2), 2);
        check.due("the straight one alone", righted("90;c11-,c110,o111", 1).tree(0, 2), 5);
    }

    static void promise06EachTreeHasItsOwn(Check check) {
        MistletoeCourt court = Check.read("10,20,30;c11-,c21-,c31-");
        check.due("tree 0", court.tree(0, 2), 1);
        check.due("tree 1", court.tree(1, 2), 3);
        check.due("tree 2", court.tree(2, 2), 7);
    }

    static void promise06ItIsToldAsItIsNow(Check check) {
        MistletoeCourt court = Check.read("50;c91-,c91-");
        check.due("at first", court.tree(0, 2), 0);
        court.plead(1, 5, 1);
        check.due("behind a plea", court.tree(0, 2), 2);
        court.birds(0, 4);
        court.year();
        check.due("behind a year", court.tree(0, 2), 3);
        court.right(1, 0);
        check.due("behind a righting", court.tree(0, 2), 0);
    }

    // ---- promise 7: of a CASE.

    static void promise07ACaseBelow0IsUnknown(Check check) {
        MistletoeCourt court = Check.read(LONGEST);
        refused(check, court, "suit(-1, 0)", () -> court.suit(-1, 0), UNKNOWN);
        refused(check, court, "suit(least, 0)", () -> court.suit(LEAST, 0), UNKNOWN);
    }

    static void promise07ACaseBeyondTheLastIsUnknown(Check check) {
        String text = "00;c11-";
        for (int cases = 2; cases <= 7; cases++) {
            text += ",c1" + cases + "-";
            MistletoeCourt court = Check.read(text);
            int beyond = cases;
            check.due("the last of " + cases, court.suit(cases - 1, 2), cases);
            refused(check, court, "suit(" + cases + ", 0)", () -> court.suit(beyond, 0), UNKNOWN);
            refused(check, court, "suit(most, 0)", () -> court.suit(MOST, 0), UNKNOWN);
        }
    }

    static void promise07WhatBelow0IsOutside(Check check) {
        MistletoeCourt court = Check.read(LONGEST);
        refused(check, court, "suit(0, -1)", () -> court.suit(0, -1), OUTSIDE);
        refused(check, court, "suit(0, least)", () -> court.suit(0, LEAST), OUTSIDE);
    }

    static void promise07WhatAbove9IsOutside(Check check) {
        MistletoeCourt court = Check.read(LONGEST);
        refused(check, court, "suit(0, 10)", () -> court.suit(0, 10), OUTSIDE);
        refused(check, court, "suit(6, most)", () -> court.suit(6, MOST), OUTSIDE);
    }

    static void promise07UnknownComesBeforeOutside(Check check) {
        MistletoeCourt court = Check.read(SHORTEST);
        check.due("suit(2, 10)", court.suit(2, 10), UNKNOWN);
        check.due("suit(-1, -1)", court.suit(-1, -1), UNKNOWN);
    }

    static void promise07KindsAre0To4(Check check) {
        MistletoeCourt court = Check.read("00;a11-,o11-,u11-,m11-,c11-");
        for (int suit = 0; suit < 5; suit++) {
            check.due("suit(" + suit + ", 0)", court.suit(suit, 0), 4 - suit);
        }
    }

    static void promise07NeedAndWorthAre1To9(Check check) {
        MistletoeCourt court = Check.read("00;c19-,u91-");
        check.due("least need", court.suit(0, 1), 1);
        check.due("most worth", court.suit(0, 2), 9);
        check.due("most need", court.suit(1, 1), 9);
        check.due("least worth", court.suit(1, 2), 1);
    }

    static void promise07OneThatHangsOnNoneTellsNone(Check check) {
        MistletoeCourt court = Check.read("00;c11-,c110,c11-");
        check.due("case 0", court.suit(0, 3), NONE);
        check.due("case 1 hangs on 0", court.suit(1, 3), 0);
        check.due("case 2", court.suit(2, 3), NONE);
    }

    private static void cost(Check check, String what, String text, int suit, int due) {
        check.due(what + ": " + text, Check.read(text).suit(suit, 4), due);
    }

    static void promise07ACaseCostsItsNeed(Check check) {
        cost(check, "least", "00;c19-,c11-", 0, 1);
        cost(check, "most", "00;c91-,c11-", 0, 9);
        cost(check, "though others hang on it", "00;c91-,c110,m110", 0, 9);
    }

    static void promise07AMarriageOnWhichNoneHangsCostsItsNeed(Check check) {
        cost(check, "least", "00;m19-,c11-", 0, 1);
        cost(check, "most", "00;m91-,c11-", 0, 9);
        cost(check, "it hangs itself", "00;c11-,m910", 1, 9);
    }

    static void promise07AMarriageCosts1LessForEachThatHangsOnIt(Check check) {
        String text = "00;m91-,m91-";
        for (int hanging = 1; hanging <= 5; hanging++) {
            text += ",c110";
            cost(check, hanging + " hanging", text, 0, 9 - hanging);
            cost(check, "none hangs on the other", text, 1, 9);
        }
        cost(check, "six hanging", "00;m91-,c110,m110,u110,o110,a110,c110", 0, 3);
    }

    static void promise07OnlyThoseStraightOnAMarriageCount(Check check) {
        cost(check, "the first of a chain", "00;m91-,m910,c111", 0, 8);
        cost(check, "the second of a chain", "00;m91-,m910,c111", 1, 8);
        cost(check, "the last of a chain", "00;m91-,m910,m911", 2, 9);
    }

    static void promise07AMarriageCosts1AtLeast(Check check) {
        cost(check, "need 1, one hanging", "00;m19-,c110", 0, 1);
        cost(check, "need 2, one hanging", "00;m29-,c110", 0, 1);
        cost(check, "need 2, two hanging", "00;m29-,c110,c110", 0, 1);
        cost(check, "need 1, six hanging", "00;m19-,c110,c110,c110,c110,c110,c110", 0, 1);
        cost(check, "need 7, six hanging", "00;m79-,c110,c110,c110,c110,c110,c110", 0, 1);
        cost(check, "need 8, six hanging", "00;m89-,c110,c110,c110,c110,c110,c110", 0, 2);
    }

    static void promise07RightedOnesThatHangCountLikeOthers(Check check) {
        MistletoeCourt court = righted("90;m51-,c110,c110", 1);
        check.due("one of two is righted", court.suit(0, 4), 3);
        court.right(2, 0);
        check.due("both are", court.suit(0, 4), 3);
        court.right(0, 0);
        check.due("it is righted itself", court.suit(0, 4), 3);
    }

    static void promise07AnAccidentCostsHalfRoundedUp(Check check) {
        int[] due = {1, 1, 2, 2, 3, 3, 4, 4, 5};
        for (int need = 1; need <= 9; need++) {
            cost(check, "need " + need, "00;a" + need + "1-,c11-", 0, due[need - 1]);
        }
    }

    static void promise07AnAccidentIsHalvedBehindWhatHangsOnIt(Check check) {
        cost(check, "half of 8", "00;a91-,c110", 0, 4);
        cost(check, "half of 7, rounded up", "00;a91-,c110,c110", 0, 4);
        cost(check, "half of 3, rounded up", "00;a91-,c110,c110,c110,c110,c110,c110", 0, 2);
    }

    static void promise07AnAccidentCosts1AtLeast(Check check) {
        cost(check, "need 1", "00;a11-,c11-", 0, 1);
        cost(check, "need 1, six hanging", "00;a11-,c110,c110,c110,c110,c110,c110", 0, 1);
        cost(check, "need 7, six hanging", "00;a71-,c110,c110,c110,c110,c110,c110", 0, 1);
    }

    static void promise07AMurderCostsTwice(Check check) {
        cost(check, "least", "00;u11-,c11-", 0, 2);
        cost(check, "most", "00;u91-,c11-", 0, 18);
        cost(check, "though others hang on it", "00;u91-,c110,c110", 0, 18);
    }

    static void promise07AnOakCostsItsNeed(Check check) {
        cost(check, "least", "00;o11-,c11-", 0, 1);
        cost(check, "most", "00;o91-,c11-", 0, 9);
        cost(check, "though others hang on it", "00;o91-,c110,o110", 0, 9);
    }

    static void promise07WhetherItIsRightedIs1Or0(Check check) {
        MistletoeCourt court = righted("90;c11-,c11-", 1);
        check.due("not", court.suit(0, 5), 0);
        check.due("righted", court.suit(1, 5), 1);
        court.walk(1);
        check.due("no more", court.suit(1, 5), 0);
    }

    static void promise07NoneHangsOnIt(Check check) {
        check.due("the last", Check.read(CHAIN).suit(6, 6), 0);
        check.due("none on any", Check.read(SHORTEST).suit(0, 6), 0);
    }

    static void promise07AllOthersHangOnIt(Check check) {
        check.due("straight", Check.read("00;c11-,c110,c110,c110,c110,c110,c110").suit(0, 6), 126);
        check.due("by others", Check.read(CHAIN).suit(0, 6), 126);
        check.due("on the second", Check.read(CHAIN).suit(1, 6), 124);
        check.due("on the last but one", Check.read(CHAIN).suit(5, 6), 64);
    }

    static void promise07WhatHangsOnAnotherOneDoesNotCount(Check check) {
        MistletoeCourt court = Check.read("00;c11-,c11-,c110,c111,c112");
        check.due("on 0", court.suit(0, 6), 20);
        check.due("on 1", court.suit(1, 6), 8);
        check.due("on 2", court.suit(2, 6), 16);
    }

    static void promise07ItShakesNoneThatIsNotRighted(Check check) {
        MistletoeCourt court = Check.read(CHAIN);
        check.due("at first", court.suit(0, 7), 0);
        court.right(0, 0);
        check.due("it is righted itself", court.suit(0, 7), 0);
    }

    static void promise07ItShakesAllOthers(Check check) {
        MistletoeCourt court = righted(CHAIN, 0, 1, 2, 3, 4, 5, 6);
        for (int suit = 0; suit < 7; suit++) {
            check.due("suit(" + suit + ", 7)", court.suit(suit, 7), 6 - suit);
        }
    }

    static void promise07ItShakesOnlyThoseThatHangOnIt(Check check) {
        MistletoeCourt court = righted("90;c11-,c110,c110,c111", 0, 1, 2);
        check.due("two of three", court.suit(0, 7), 2);
        check.due("not the one beside, nor the one above", court.suit(1, 7), 0);
        court.right(3, 0);
        check.due("by others", court.suit(0, 7), 3);
        court.walk(1);
        check.due("by one that is not righted", court.suit(0, 7), 2);
    }

    /** The needs of case 0 when so much was enough, or was not. */
    private static void needs(Check check, String text, int berries, boolean enough, int due) {
        MistletoeCourt court = Check.read(text);
        court.see(0, berries, enough);
        check.due("needs in " + text + " by " + berries + (enough ? ", enough" : ", not enough"), court.suit(0, 8), due);
    }

    static void promise07NeedsAre1To9IfNothingIsSeen(Check check) {
        MistletoeCourt court = Check.read("00;c11-,m91-,u11-,o110,a11-");
        for (int suit = 0; suit < 5; suit++) {
            check.due("suit(" + suit + ", 8)", court.suit(suit, 8), 511);
        }
    }

    static void promise07JustSoManyAreEnough(Check check) {
        needs(check, "00;c11-,c11-", 5, true, 31);
        needs(check, "00;c11-,c11-", 5, false, 480);
    }

    static void promise07TheLeastNeedIsBit1(Check check) {
        needs(check, "00;c91-,c11-", 1, true, 1);
        needs(check, "00;o91-,c11-", 1, true, 1);
    }

    static void promise07TheGreatestNeedIsBit256(Check check) {
        needs(check, "00;c11-,c11-", 8, false, 256);
        needs(check, "00;o11-,c11-", 8, false, 256);
    }

    static void promise07NeedsAreNoneIfNoneIsSo(Check check) {
        needs(check, "00;c11-,c11-", 9, false, 0);
        needs(check, "00;c11-,c11-", 18, false, 0);
        MistletoeCourt court = Check.read(SHORTEST);
        court.see(0, 5, true);
        court.see(0, 5, false);
        check.due("seen both ways", court.suit(0, 8), 0);
    }

    static void promise07NeedsAreAllIfEachIsSo(Check check) {
        needs(check, "00;c11-,c11-", 9, true, 511);
        needs(check, "00;c11-,c11-", 18, true, 511);
    }

    static void promise07NeedsOfAMurderGoTo18(Check check) {
        needs(check, "00;u11-,c11-", 18, true, 511);
        needs(check, "00;u11-,c11-", 18, false, 0);
        needs(check, "00;u11-,c11-", 17, true, 255);
        needs(check, "00;u11-,c11-", 17, false, 256);
        needs(check, "00;u11-,c11-", 2, true, 1);
        needs(check, "00;u11-,c11-", 1, true, 0);
    }

    static void promise07NeedsOfAMarriageGoByWhatHangsOnIt(Check check) {
        needs(check, "00;m11-,c110,c110,c110,c110,c110,c110", 1, true, 127);
        needs(check, "00;m11-,c110,c110,c110,c110,c110,c110", 1, false, 384);
        needs(check, "00;m11-,c110,c110,c110,c110,c110,c110", 2, false, 256);
        needs(check, "00;m11-,c110,c110,c110,c110,c110,c110", 3, false, 0);
        needs(check, "00;m11-,c110", 8, true, 511);
        needs(check, "00;m11-,c11-", 8, false, 256);
    }

    static void promise07NeedsOfAnAccidentAreHalved(Check check) {
        needs(check, "00;a11-,c11-", 1, true, 3);
        needs(check, "00;a11-,c11-", 4, false, 256);
        needs(check, "00;a11-,c11-", 5, false, 0);
        needs(check, "00;a11-,c110,c110,c110,c110,c110,c110", 1, true, 255);
    }

    static void promise07NeedsGoByWhatIsSeenOfItAlone(Check check) {
        MistletoeCourt court = Check.read("00;c11-,c11-,c11-");
        court.see(1, 1, true);
        check.due("the one ahead", court.suit(0, 8), 511);
        check.due("it", court.suit(1, 8), 1);
        check.due("the one behind", court.suit(2, 8), 511);
    }

    static void promise07NeedsGoByAllEightThatAreSeen(Check check) {
        MistletoeCourt court = Check.read(SHORTEST);
        court.see(0, 2, false);
        for (int number = 2; number <= 7; number++) {
            court.see(0, 9, true);
        }
        check.due("the first counts", court.suit(0, 8), 508);
        court.see(0, 3, true);
        check.due("the eighth counts", court.suit(0, 8), 4);
    }

    static void promise07ItsOwnNeedTellsNothingOfNeeds(Check check) {
        MistletoeCourt court = Check.read("00;c91-,c11-");
        court.see(0, 3, true);
        check.due("needs", court.suit(0, 8), 7);
        court.plead(0, 2, 2);
        check.due("needs behind a plea", court.suit(0, 8), 7);
    }

    static void promise07ThereIsNoTryIfNoNeedIsLeft(Check check) {
        MistletoeCourt court = Check.read(SHORTEST);
        court.see(0, 9, false);
        check.due("suit(0, 9)", court.suit(0, 9), NONE);
        check.due("the other one", court.suit(1, 9), 4);
    }

    static void promise07OfLikeTriesItIsTheLeast(Check check) {
        // Behind 4 and behind 5 at worst five needs are left.
        check.due("a case", Check.read("00;c91-,c11-").suit(0, 9), 4);
        check.due("an oak", Check.read("00;o91-,c11-").suit(0, 9), 4);
        check.due("a murder", Check.read("00;u11-,c11-").suit(0, 9), 8);
        check.due("an accident", Check.read("00;a11-,c11-").suit(0, 9), 2);
    }

    static void promise07TheLeastTryIs1(Check check) {
        MistletoeCourt one = Check.read(SHORTEST);
        one.see(0, 8, false);
        check.due("one need is left", one.suit(0, 9), 1);
        MistletoeCourt like = Check.read("00;a11-,c11-");
        like.see(0, 1, true);
        check.due("two needs that no try tells apart", like.suit(0, 9), 1);
        MistletoeCourt six = Check.read("00;m11-,c110,c110,c110,c110,c110,c110");
        check.due("seven needs that cost 1", six.suit(0, 9), 1);
    }

    static void promise07NeedsThatCostTheSameAreNotToldApart(Check check) {
        // With one hanging on it, an accident of need 8 costs 4, and so does one of need 9.
        MistletoeCourt court = Check.read("00;a11-,c110");
        court.see(0, 3, false);
        check.due("needs", court.suit(0, 8), 384);
        check.due("any try leaves both", court.suit(0, 9), 1);
    }

    static void promise07TriesGoAbove9(Check check) {
        MistletoeCourt court = Check.read("00;u11-,c11-");
        court.see(0, 14, false);
        check.due("needs", court.suit(0, 8), 384);
        check.due("to tell 16 and 18 apart", court.suit(0, 9), 16);
    }

    static void promise07ATryLeavesFewestAtWorst(Check check) {
        MistletoeCourt court = Check.read(SHORTEST);
        court.see(0, 3, false);
        check.due("of 4 to 9", court.suit(0, 9), 6);
        court.see(0, 6, false);
        check.due("of 7 to 9: 7 leaves two, so does 8", court.suit(0, 9), 7);
        court.see(0, 8, true);
        check.due("of 7 and 8", court.suit(0, 9), 7);
    }

    // ---- promise 8: a CASE taken as a KIND.

    static void promise08ACaseThatIsNotThereIsUnknown(Check check) {
        MistletoeCourt court = Check.read(SHORTEST);
        for (int suit : new int[] {LEAST, -1, 2, 7, MOST}) {
            refused(check, court, "as(" + suit + ", 0)", () -> court.as(suit, 0), UNKNOWN);
        }
    }

    static void promise08AKindBelow0IsOutside(Check check) {
        MistletoeCourt court = Check.read(SHORTEST);
        refused(check, court, "as(0, -1)", () -> court.as(0, -1), OUTSIDE);
        refused(check, court, "as(0, least)", () -> court.as(0, LEAST), OUTSIDE);
    }

    static void promise08AKindAbove4IsOutside(Check check) {
        MistletoeCourt court = Check.read(SHORTEST);
        refused(check, court, "as(1, 5)", () -> court.as(1, 5), OUTSIDE);
        refused(check, court, "as(0, most)", () -> court.as(0, MOST), OUTSIDE);
    }

    static void promise08UnknownComesBeforeOutside(Check check) {
        MistletoeCourt court = Check.read(SHORTEST);
        check.due("as(2, 5)", court.as(2, 5), UNKNOWN);
        check.due("as(-1, -1)", court.as(-1, -1), UNKNOWN);
    }

    private static final String KINDS_FROM_BEHIND = "00;a11-,o11-,u11-,m11-,c11-";

    static void promise08EachIsACase(Check check) {
        MistletoeCourt court = Check.read(KINDS_FROM_BEHIND);
        for (int suit = 0; suit < 5; suit++) {
            check.due("as(" + suit + ", 0)", court.as(suit, 0), suit);
        }
    }

    static void promise08EachIsItsOwnKind(Check check) {
        MistletoeCourt court = Check.read(KINDS_FROM_BEHIND);
        for (int suit = 0; suit < 5; suit++) {
            check.due("as(" + suit + ", " + (4 - suit) + ")", court.as(suit, 4 - suit), suit);
        }
    }

    static void promise08AnAccidentIsAMarriageToo(Check check) {
        check.due("as(0, 1)", Check.read(KINDS_FROM_BEHIND).as(0, 1), 0);
    }

    static void promise08AMarriageIsNoAccident(Check check) {
        check.due("as(3, 4)", Check.read(KINDS_FROM_BEHIND).as(3, 4), NONE);
    }

    static void promise08NoOtherCastHolds(Check check) {
        MistletoeCourt court = Check.read(KINDS_FROM_BEHIND);
        int[][] failing = {{0, 2}, {0, 3}, {1, 1}, {1, 2}, {1, 4}, {2, 1}, {2, 3}, {2, 4}, {3, 2}, {3, 3}, {4, 1}, {4, 2},
            {4, 3}, {4, 4}};
        for (int[] cast : failing) {
            check.due("as(" + cast[0] + ", " + cast[1] + ")", court.as(cast[0], cast[1]), NONE);
        }
    }

    static void promise08TheLastCaseIsToldByItsNumber(Check check) {
        check.due("as(6, 0)", Check.read(LONGEST).as(6, 0), 6);
        check.due("as(5, 0)", Check.read(LONGEST).as(5, 0), 5);
    }
}
