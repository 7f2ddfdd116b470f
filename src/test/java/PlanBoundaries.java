/** The boundary sentences of promises 14 to 16: what would be. */
final class PlanBoundaries extends Sentences {

    // ---- promise 14: PLAN.

    /** What plan tells for 0 and 1, and for 10 to 16; NONE where no more is due. */
    private static void plan(Check check, MistletoeCourt court, int holds, int berries, int... trees) {
        check.due("plan(0)", court.plan(0), holds);
        check.due("plan(1)", court.plan(1), berries);
        for (int suit = 0; suit < 7; suit++) {
            check.due("plan(" + (10 + suit) + ")", court.plan(10 + suit), suit < trees.length ? trees[suit] : NONE);
        }
    }

    static void promise14NoShireIsState(Check check) {
        MistletoeCourt court = new MistletoeCourt();
        for (int what : new int[] {0, 1, 10, 16}) {
            refused(check, court, "plan(" + what + ")", () -> court.plan(what), STATE);
        }
    }

    static void promise14WhatBelow0IsOutside(Check check) {
        MistletoeCourt court = Check.read(LONGEST);
        refused(check, court, "plan(-1)", () -> court.plan(-1), OUTSIDE);
        refused(check, court, "plan(least)", () -> court.plan(LEAST), OUTSIDE);
    }

    static void promise14WhatBetween1And10IsOutside(Check check) {
        for (int what = 2; what <= 9; what++) {
            MistletoeCourt court = Check.read(LONGEST);
            int asked = what;
            refused(check, court, "plan(" + what + ")", () -> court.plan(asked), OUTSIDE);
        }
    }

    static void promise14WhatAbove16IsOutside(Check check) {
        MistletoeCourt court = Check.read(LONGEST);
        refused(check, court, "plan(17)", () -> court.plan(17), OUTSIDE);
        refused(check, court, "plan(most)", () -> court.plan(MOST), OUTSIDE);
    }

    static void promise14OutsideComesBeforeState(Check check) {
        MistletoeCourt court = new MistletoeCourt();
        refused(check, court, "plan(2) without a shire", () -> court.plan(2), OUTSIDE);
        MistletoeCourt worn = Check.read(SHORTEST);
        plans(worn, 20);
        refused(check, worn, "plan(17) behind 20", () -> worn.plan(17), OUTSIDE);
    }

    private static void plans(MistletoeCourt court, int times) {
        for (int time = 0; time < times; time++) {
            court.plan(0);
        }
    }

    static void promise14Plan20IsDone(Check check) {
        MistletoeCourt court = Check.read("10;c11-,c12-");
        for (int number = 1; number <= 20; number++) {
            check.due("plan number " + number, court.plan(0), 2);
            check.due("done", court.count(11), number);
        }
    }

    static void promise14Plan21IsState(Check check) {
        MistletoeCourt court = Check.read("10;c11-,c12-");
        plans(court, 20);
        for (int what : new int[] {0, 1, 10, 16}) {
            refused(check, court, "plan(" + what + ")", () -> court.plan(what), STATE);
        }
        check.due("done", court.count(11), 20);
    }

    static void promise14EachThatIsNotRefusedIsOneWhateverIsAsked(Check check) {
        MistletoeCourt court = Check.read("10;c11-,c12-");
        int[] asked = {0, 1, 10, 11, 12, 16};
        for (int number = 0; number < asked.length; number++) {
            court.plan(asked[number]);
            check.due("done behind plan(" + asked[number] + ")", court.count(11), number + 1);
        }
    }

    static void promise14ARefusedOneIsNone(Check check) {
        MistletoeCourt court = new MistletoeCourt();
        court.plan(0);
        check.due("without a shire", court.count(11), 0);
        MistletoeCourt read = Check.read("10;c11-,c12-");
        read.plan(2);
        read.plan(17);
        check.due("outside", read.count(11), 0);
        for (int number = 1; number <= 20; number++) {
            check.due("plan number " + number, read.plan(0), 2);
        }
    }

    static void promise14ItCountsOnBehindAnotherShire(Check check) {
        MistletoeCourt court = Check.read("10;c11-,c12-");
        plans(court, 19);
        Check.type(court, "10;c13-,c11-");
        court.shire();
        check.due("done", court.count(11), 19);
        check.due("plan number 20", court.plan(0), 3);
        refused(check, court, "plan number 21", () -> court.plan(0), STATE);
    }

    static void promise14ItCountsOnBehindARestore(Check check) {
        MistletoeCourt court = Check.read("10;c11-,c12-");
        court.image();
        plans(court, 20);
        court.restore();
        check.due("done", court.count(11), 20);
        refused(check, court, "plan number 21", () -> court.plan(0), STATE);
    }

    static void promise14ItChangesNothingElse(Check check) {
        MistletoeCourt court = righted("90;c11-,c120,c13-", 1);
        court.plan(0);
        check.due("righted", court.count(4), 1);
        check.due("berries", court.tree(0, 0), 8);
        check.due("how often any was", court.count(7), 1);
        check.due("case 1", court.suit(1, 5), 1);
    }

    static void promise14NothingIsRightedIfNothingCanBe(Check check) {
        plan(check, Check.read(SHORTEST), 0, 0);
        plan(check, Check.read("80;c99-,u59-"), 0, 0);
    }

    static void promise14NothingIsRightedIfAllIs(Check check) {
        plan(check, righted("90;c14-,c15-", 0, 1), 9, 0);
    }

    static void promise14ACaseThatTheShireHasNotIsAtNone(Check check) {
        MistletoeCourt court = Check.read("90;c11-,c11-");
        check.due("plan(11)", court.plan(11), 0);
        for (int what = 12; what <= 16; what++) {
            check.due("plan(" + what + ")", court.plan(what), NONE);
        }
    }

    static void promise14CasesOfALargerShireAreForgotten(Check check) {
        MistletoeCourt court = Check.read("90;c11-,c11-,c11-,c11-,c11-,c11-,c11-");
        check.due("plan(16)", court.plan(16), 0);
        Check.type(court, "90;c11-,c11-");
        court.shire();
        check.due("plan(16) behind a smaller one", court.plan(16), NONE);
        check.due("plan(0)", court.plan(0), 2);
    }

    static void promise14SevenCasesAtThreeTrees(Check check) {
        plan(check, Check.read("30,20,20;c11-,c110,c111,c112,c113,c114,c115"), 7, 7, 0, 0, 0, 1, 1, 2, 2);
    }

    static void promise14ATreeHasJustEnoughForAllAtIt(Check check) {
        plan(check, Check.read("50;c31-,c21-"), 2, 5, 0, 0);
        plan(check, Check.read("40;c31-,c21-"), 1, 2, NONE, 0);
    }

    static void promise14BerriesOfTwoTreesAreNotPutTogether(Check check) {
        plan(check, Check.read("20,20;c39-,c11-"), 1, 1, NONE, 0);
        plan(check, Check.read("20,20,20;c39-,c49-"), 0, 0);
    }

    static void promise14MostComesAheadOfFewestBerries(Check check) {
        plan(check, Check.read("90;c92-,c11-"), 2, 9, 0, NONE);
        plan(check, Check.read("90;c13-,c84-"), 7, 9, 0, 0);
    }

    static void promise14OfLikeWorthItIsFewestBerries(Check check) {
        plan(check, Check.read("40;c32-,c42-"), 2, 3, 0, NONE);
        plan(check, Check.read("40;c42-,c32-"), 2, 3, NONE, 0);
        plan(check, Check.read("40;c44-,c22-,c12-"), 4, 3, NONE, 0, 0);
    }

    static void promise14NoneIsAheadOfAllTrees(Check check) {
        plan(check, Check.read("10;c11-,c11-"), 1, 1, NONE, 0);
        plan(check, Check.read("20;c11-,c11-,c11-"), 2, 2, NONE, 0, 0);
    }

    static void promise14TheFirstTreeIsAheadOfOthers(Check check) {
        plan(check, Check.read("90,90,90;c11-,c11-"), 2, 2, 0, 0);
        plan(check, Check.read("10,10,10;c11-,c11-"), 2, 2, 0, 1);
        plan(check, Check.read("00,10,10;c11-,c11-"), 2, 2, 1, 2);
    }

    static void promise14Case0ComesFirst(Check check) {
        // Either case fits at tree 0, but not both.
        plan(check, Check.read("20,30;c21-,c21-"), 2, 4, 0, 1);
        plan(check, Check.read("30,20;c21-,c31-"), 2, 5, 1, 0);
        // Case 0 at NONE is ahead of case 1 at NONE.
        plan(check, Check.read("20;c21-,c21-"), 1, 2, NONE, 0);
    }

    static void promise14WhatCostsLessOrMoreIsPaidSo(Check check) {
        plan(check, Check.read("10;m39-,c910,c910"), 9, 1, 0);
        plan(check, Check.read("50;a99-,c11-"), 9, 5, 0);
        plan(check, Check.read("89;u99-,c91-"), 0, 0);
    }

    static void promise14ADearMurderIsPlannedOf18(Check check) {
        MistletoeCourt court = Check.read("99;u91-,c11-");
        court.year();
        plan(check, court, 1, 1, NONE, 0);
        court.plead(0, 9, 2);
        plan(check, court, 2, 18, 0, NONE);
    }

    static void promise14OneOnWhichAnotherHangsIsAheadOfIt(Check check) {
        // Behind it, it would reopen the other one.
        plan(check, Check.read("20;c15-,c150"), 10, 2, 0, 0);
        plan(check, Check.read("30;c11-,c110,c111"), 3, 3, 0, 0, 0);
    }

    static void promise14OneThatIsRightedIsNotRightedOnceMore(Check check) {
        MistletoeCourt court = righted("90;c19-,c210", 0);
        plan(check, court, 10, 2, NONE, 0);
    }

    static void promise14OneThatIsReopenedIsRightedOnceMore(Check check) {
        plan(check, righted("90;c19-,c250", 1), 14, 3, 0, 0);
    }

    static void promise14SoIsOneThatIsReopenedByOthers(Check check) {
        // Case 1, between them, is not righted by the plan: there are too few berries.
        plan(check, righted("90;c19-,c910,c131", 2), 12, 2, 0, NONE, 0);
    }

    static void promise14OneThatIsReopenedHoldsNoMore(Check check) {
        MistletoeCourt court = righted("20;c15-,c190", 1);
        plan(check, court, 9, 0);
        court.plead(1, 1, 4);
        plan(check, court, 5, 1, 0, NONE);
    }

    static void promise14OneThatIsRightedAndNotReopenedHolds(Check check) {
        plan(check, righted("20;c15-,c19-", 1), 14, 1, 0, NONE);
        plan(check, righted("30;c15-,c190,c111", 0, 1), 15, 1, NONE, NONE, 0);
    }

    static void promise14AnOakOnNoneIsPlanned(Check check) {
        plan(check, Check.read("20;o15-,o14-"), 9, 2, 0, 0);
    }

    static void promise14AnOakOnOneThatIsNotRightedIsNot(Check check) {
        plan(check, Check.read("50;c91-,o190"), 0, 0);
        plan(check, Check.read("50;c51-,o190"), 1, 5, 0, NONE);
    }

    static void promise14AnOakOnOneOfThePlanIs(Check check) {
        plan(check, Check.read("60;c51-,o190"), 10, 6, 0, 0);
        plan(check, Check.read("30;o11-,o110,o111"), 3, 3, 0, 0, 0);
    }

    static void promise14AnOakOnOneThatIsRightedIs(Check check) {
        plan(check, righted("20;c11-,o190", 0), 10, 1, NONE, 0);
    }

    static void promise14AnOakOnOneThatThePlanReopensIsNot(Check check) {
        // Case 1 is righted now, but case 0 reopens it, and there are too few berries to right it again.
        plan(check, righted("60;c19-,c410,o111", 1), 9, 1, 0, NONE, NONE);
    }

    // ---- promise 15: GAME.

    private static void game(Check check, MistletoeCourt court, int tree, int lead, int first) {
        check.due("game(" + tree + ", 0)", court.game(tree, 0), lead);
        check.due("game(" + tree + ", 1)", court.game(tree, 1), first);
    }

    static void promise15ATreeThatIsNotThereIsUnknown(Check check) {
        MistletoeCourt court = Check.read("50,60;c11-,c11-");
        for (int tree : new int[] {LEAST, -1, 2, 3, MOST}) {
            refused(check, court, "game(" + tree + ", 0)", () -> court.game(tree, 0), UNKNOWN);
        }
    }

    static void promise15WhatBelow0IsOutside(Check check) {
        MistletoeCourt court = Check.read("50;c11-,c11-");
        refused(check, court, "game(0, -1)", () -> court.game(0, -1), OUTSIDE);
        refused(check, court, "game(0, least)", () -> court.game(0, LEAST), OUTSIDE);
    }

    static void promise15WhatAbove1IsOutside(Check check) {
        MistletoeCourt court = Check.read("50;c11-,c11-");
        refused(check, court, "game(0, 2)", () -> court.game(0, 2), OUTSIDE);
        refused(check, court, "game(0, most)", () -> court.game(0, MOST), OUTSIDE);
    }

    static void promise15UnknownComesBeforeOutside(Check check) {
        MistletoeCourt court = Check.read("50;c11-,c11-");
        check.due("game(1, 2)", court.game(1, 2), UNKNOWN);
        check.due("game(-1, -1)", court.game(-1, -1), UNKNOWN);
    }

    static void promise15ItIs100AndNoneIfNoneCanBeRighted(Check check) {
        game(check, Check.read("00;c19-,c19-"), 0, 100, NONE);
        game(check, Check.read("80;c99-,u59-"), 0, 100, NONE);
        game(check, righted("90;c19-,c19-", 0, 1), 0, 100, NONE);
    }

    static void promise15OneTellsOfLikeOnesTheLeast(Check check) {
        game(check, Check.read("10;c13-,c13-,c13-"), 0, 103, 0);
        game(check, Check.read("20;c23-,c13-,c23-"), 0, 103, 0);
        game(check, Check.read("10;c12-,c13-,c13-"), 0, 103, 1);
    }

    static void promise15ItCanBe100ThoughBothRight(Check check) {
        game(check, Check.read("20;c15-,c15-"), 0, 100, 0);
    }

    static void promise15WhoIsBehindIsToldBelow100(Check check) {
        game(check, Check.read("20;c11-,o190"), 0, 92, 0);
        game(check, Check.read("20;c19-,o190"), 0, 100, 0);
    }

    static void promise15OneMustIfOneCan(Check check) {
        // To right none would leave it at 100.
        game(check, Check.read("20;c11-,o120"), 0, 99, 0);
    }

    static void promise15JustEnoughBerriesAreEnough(Check check) {
        game(check, Check.read("90;c94-,c11-"), 0, 104, 0);
        game(check, Check.read("30;c24-,c13-"), 0, 101, 0);
    }

    static void promise15OneBerryTooFewIsNotEnough(Check check) {
        game(check, Check.read("80;c94-,c11-"), 0, 101, 1);
        game(check, Check.read("20;c24-,c13-"), 0, 104, 0);
    }

    static void promise15TheOtherOneIsLeftNoBerries(Check check) {
        // Case 2 is worth less than case 0, but takes all.
        game(check, Check.read("30;c24-,c13-,c33-"), 0, 103, 2);
    }

    static void promise15OneThatIsRightedNowIsNotRighted(Check check) {
        game(check, righted("90;c19-,c11-", 0), 0, 101, 1);
    }

    static void promise15EachIsRightedOnceAlone(Check check) {
        game(check, Check.read("90;c19-,c95-"), 0, 109, 0);
        game(check, Check.read("30;c15-,c13-"), 0, 102, 0);
    }

    static void promise15NothingIsReopenedByIt(Check check) {
        game(check, righted("90;c11-,c190", 1), 0, 101, 0);
        // Were case 1 reopened, it could be righted twice.
        game(check, Check.read("90;c11-,c150"), 0, 104, 1);
    }

    static void promise15AnOakOnNoneCanBeRighted(Check check) {
        game(check, Check.read("10;o12-,o19-"), 0, 109, 1);
    }

    static void promise15AnOakOnOneThatIsNotRightedCanNot(Check check) {
        game(check, Check.read("50;c91-,o190"), 0, 100, NONE);
        game(check, Check.read("90;c91-,o190"), 0, 101, 0);
    }

    static void promise15AnOakOnOneThatIsRightedNowCan(Check check) {
        game(check, righted("20;c11-,o190", 0), 0, 109, 1);
    }

    static void promise15AnOakOnOneOfTheGameCan(Check check) {
        game(check, Check.read("30;c11-,o120,o131"), 0, 102, 0);
    }

    static void promise15SevenCases(Check check) {
        game(check, Check.read("70;c19-,c18-,c17-,c16-,c15-,c14-,c13-"), 0, 106, 0);
        game(check, Check.read("60;c19-,c18-,c17-,c16-,c15-,c14-,c13-"), 0, 103, 0);
        game(check, Check.read("70;c11-,c12-,c13-,c14-,c15-,c16-,c17-"), 0, 104, 6);
    }

    static void promise15BehindALargerShireItIsOfTheNewOne(Check check) {
        MistletoeCourt court = Check.read("90;c11-,c12-,c19-,c14-,c15-,c16-,c17-");
        court.game(0, 0);
        Check.type(court, "90;c11-,c13-");
        court.shire();
        game(check, court, 0, 102, 1);
        Check.type(court, "90;c11-,c13-,c15-");
        court.shire();
        game(check, court, 0, 103, 2);
    }

    static void promise15ItIsPlayedAtOneTreeAlone(Check check) {
        MistletoeCourt court = Check.read("00,10,20;c15-,c13-");
        game(check, court, 0, 100, NONE);
        game(check, court, 1, 105, 0);
        game(check, court, 2, 102, 0);
    }

    static void promise15ItChangesNothing(Check check) {
        MistletoeCourt court = righted("90;c11-,c120,c13-", 1);
        long before = court.digest();
        court.game(0, 0);
        court.game(0, 1);
        check.due("digest()", court.digest(), before);
        check.due("righted", court.count(4), 1);
        check.due("berries", court.tree(0, 0), 8);
    }

    // ---- promise 16: ODDS.

    private static void odds(Check check, MistletoeCourt court, int[] asked, int above, int below) {
        String call = "odds(" + asked[0] + ", " + asked[1] + ", " + asked[2] + ", ";
        check.due(call + "0)", court.odds(asked[0], asked[1], asked[2], 0), above);
        check.due(call + "1)", court.odds(asked[0], asked[1], asked[2], 1), below);
    }

    private static void odds(Check check, String text, int years, int above, int below) {
        odds(check, Check.read(text), new int[] {0, 0, years}, above, below);
    }

    static void promise16ACaseThatIsNotThereIsUnknown(Check check) {
        MistletoeCourt court = Check.read("03;c21-,c11-");
        for (int suit : new int[] {LEAST, -1, 2, 7, MOST}) {
            refused(check, court, "odds(" + suit + ", ..)", () -> court.odds(suit, 0, 1, 0), UNKNOWN);
        }
    }

    static void promise16ATreeThatIsNotThereIsUnknown(Check check) {
        MistletoeCourt court = Check.read("03,03;c21-,c11-");
        for (int tree : new int[] {LEAST, -1, 2, 3, MOST}) {
            refused(check, court, "odds(0, " + tree + ", ..)", () -> court.odds(0, tree, 1, 0), UNKNOWN);
        }
    }

    static void promise16YearsBelow1AreOutside(Check check) {
        MistletoeCourt court = Check.read("03;c21-,c11-");
        for (int years : new int[] {LEAST, -1, 0}) {
            refused(check, court, "odds in " + years, () -> court.odds(0, 0, years, 0), OUTSIDE);
        }
    }

    static void promise16YearsAbove3AreOutside(Check check) {
        MistletoeCourt court = Check.read("03;c21-,c11-");
        for (int years : new int[] {4, MOST}) {
            refused(check, court, "odds in " + years, () -> court.odds(0, 0, years, 0), OUTSIDE);
        }
    }

    static void promise16WhatBelow0IsOutside(Check check) {
        MistletoeCourt court = Check.read("03;c21-,c11-");
        refused(check, court, "what -1", () -> court.odds(0, 0, 1, -1), OUTSIDE);
        refused(check, court, "what least", () -> court.odds(0, 0, 1, LEAST), OUTSIDE);
    }

    static void promise16WhatAbove1IsOutside(Check check) {
        MistletoeCourt court = Check.read("03;c21-,c11-");
        refused(check, court, "what 2", () -> court.odds(0, 0, 1, 2), OUTSIDE);
        refused(check, court, "what most", () -> court.odds(0, 0, 1, MOST), OUTSIDE);
    }

    static void promise16UnknownComesBeforeOutside(Check check) {
        MistletoeCourt court = Check.read("03;c21-,c11-");
        check.due("case and years", court.odds(2, 0, 0, 0), UNKNOWN);
        check.due("tree and years", court.odds(0, 1, 4, 0), UNKNOWN);
        check.due("tree and what", court.odds(0, -1, 1, 2), UNKNOWN);
        check.due("all", court.odds(-1, -1, -1, -1), UNKNOWN);
    }

    static void promise16OneYear(Check check) {
        odds(check, "03;c21-,c11-", 1, 1, 2);
        odds(check, "03;c31-,c11-", 1, 1, 4);
    }

    static void promise16ThreeYears(Check check) {
        odds(check, "01;c31-,c11-", 3, 1, 8);
        odds(check, "01;c21-,c11-", 3, 1, 2);
        odds(check, "09;c11-,c11-", 3, 999, 1000);
    }

    static void promise16TwoYears(Check check) {
        odds(check, "01;c21-,c11-", 2, 1, 4);
        odds(check, "09;u91-,c11-", 2, 1, 100);
    }

    static void promise16NeverIs0Of1(Check check) {
        odds(check, "00;c11-,c11-", 3, 0, 1);
        odds(check, "09;u91-,c11-", 1, 0, 1);
        odds(check, "02;c71-,c11-", 3, 0, 1);
    }

    static void promise16SurelyIs1Of1(Check check) {
        odds(check, "99;c91-,c11-", 1, 1, 1);
        odds(check, "10;c11-,c11-", 3, 1, 1);
    }

    static void promise16NoBirdsBringNone(Check check) {
        odds(check, "80;c91-,c11-", 3, 0, 1);
        odds(check, "90;c91-,c11-", 3, 1, 1);
    }

    static void promise16JustEnoughBerriesAreEnough(Check check) {
        odds(check, "81;c91-,c11-", 1, 1, 2);
        odds(check, "91;u51-,c11-", 1, 1, 2);
        odds(check, "02;c61-,c11-", 3, 1, 27);
    }

    static void promise16PartsAreInLowestTerms(Check check) {
        // 2 of 4, 6 of 9, 60 of 64, 10 of 100.
        odds(check, "03;c21-,c11-", 1, 1, 2);
        odds(check, "02;c21-,c11-", 2, 2, 3);
        odds(check, "03;c21-,c11-", 3, 15, 16);
        odds(check, "89;u81-,c11-", 2, 16, 25);
    }

    static void promise16ATreeHas20AtMost(Check check) {
        MistletoeCourt court = Check.read("99;u91-,c11-");
        years(court, 2);
        odds(check, court, new int[] {0, 0, 3}, 1, 1);
        court.right(1, 0);
        odds(check, court, new int[] {0, 0, 1}, 1, 1);
    }

    static void promise16OnlyTheBerriesCount(Check check) {
        odds(check, righted("91;c91-,c11-", 1), new int[] {0, 0, 1}, 1, 2);
        odds(check, righted("91;c91-,c11-", 1), new int[] {1, 0, 1}, 1, 1);
        odds(check, Check.read("01;c91-,o110"), new int[] {1, 0, 1}, 1, 2);
    }

    static void promise16ItGoesByThatTreeAndCase(Check check) {
        MistletoeCourt court = Check.read("00,01,02;c11-,c21-");
        odds(check, court, new int[] {0, 0, 1}, 0, 1);
        odds(check, court, new int[] {0, 1, 1}, 1, 2);
        odds(check, court, new int[] {0, 2, 1}, 2, 3);
        odds(check, court, new int[] {1, 2, 1}, 1, 3);
    }

    static void promise16ItChangesNothing(Check check) {
        MistletoeCourt court = Check.read("03;c21-,c11-");
        long before = court.digest();
        court.odds(0, 0, 3, 0);
        check.due("digest()", court.digest(), before);
        check.due("years", court.count(6), 0);
        check.due("berries", court.tree(0, 0), 0);
    }
}
