/** The boundary sentences of promises 17 to 19: what is seen, and centuries. */
final class SightBoundaries extends Sentences {

    // ---- promise 17: UNKNOWN: suit; OUTSIDE: berries (1 to 18); FULL (8 at most).

    static void promise17ACaseThatIsNotThereIsUnknown(Check check) {
        MistletoeCourt court = Check.read(SHORTEST);
        for (int suit : new int[] {LEAST, -1, 2, 7, MOST}) {
            refused(check, court, "see(" + suit + ", 1, true)", () -> court.see(suit, 1, true), UNKNOWN);
        }
    }

    static void promise17BerriesBelow1AreOutside(Check check) {
        MistletoeCourt court = Check.read(SHORTEST);
        for (int berries : new int[] {LEAST, -1, 0}) {
            refused(check, court, "see(0, " + berries + ", true)", () -> court.see(0, berries, true), OUTSIDE);
            refused(check, court, "see(0, " + berries + ", false)", () -> court.see(0, berries, false), OUTSIDE);
        }
    }

    static void promise17BerriesAbove18AreOutside(Check check) {
        MistletoeCourt court = Check.read(SHORTEST);
        for (int berries : new int[] {19, 20, MOST}) {
            refused(check, court, "see(0, " + berries + ", true)", () -> court.see(0, berries, true), OUTSIDE);
            refused(check, court, "see(0, " + berries + ", false)", () -> court.see(0, berries, false), OUTSIDE);
        }
    }

    static void promise17UnknownComesBeforeOutside(Check check) {
        MistletoeCourt court = Check.read(SHORTEST);
        check.due("see(2, 0, true)", court.see(2, 0, true), UNKNOWN);
        check.due("see(-1, 19, true)", court.see(-1, 19, true), UNKNOWN);
    }

    static void promise17OneBerryMayBeSeen(Check check) {
        MistletoeCourt court = Check.read("00;c11-,c11-");
        check.due("see(0, 1, true)", court.see(0, 1, true), 1);
        check.due("needs", court.suit(0, 8), 1);
    }

    static void promise17EighteenBerriesMayBeSeen(Check check) {
        MistletoeCourt court = Check.read("00;u11-,c11-");
        check.due("see(0, 18, false)", court.see(0, 18, false), 1);
        check.due("needs", court.suit(0, 8), 0);
    }

    static void promise17TheEighthIsSeen(Check check) {
        MistletoeCourt court = Check.read(SHORTEST);
        for (int number = 1; number <= 8; number++) {
            check.due("see number " + number, court.see(number % 2, 9, true), number);
            check.due("seen", court.count(8), number);
        }
        check.due("of case 1", court.suit(1, 8), 511);
    }

    static void promise17TheNinthIsFull(Check check) {
        MistletoeCourt court = seenEightTimes();
        refused(check, court, "of the same case", () -> court.see(0, 1, true), FULL);
        refused(check, court, "of another case", () -> court.see(1, 1, true), FULL);
        check.due("seen", court.count(8), 8);
        check.due("it tells nothing", court.suit(1, 8), 511);
    }

    static void promise17UnknownAndOutsideComeBeforeFull(Check check) {
        MistletoeCourt court = seenEightTimes();
        refused(check, court, "see(2, 1, true)", () -> court.see(2, 1, true), UNKNOWN);
        refused(check, court, "see(0, 0, true)", () -> court.see(0, 0, true), OUTSIDE);
        refused(check, court, "see(0, 19, true)", () -> court.see(0, 19, true), OUTSIDE);
    }

    static void promise17WhatIsSeenTwiceCountsTwice(Check check) {
        MistletoeCourt court = Check.read(SHORTEST);
        check.due("see", court.see(0, 5, true), 1);
        check.due("see again", court.see(0, 5, true), 2);
        check.due("the needs are the same", court.suit(0, 8), 31);
    }

    static void promise17WhatCanNotBeMayBeSeen(Check check) {
        MistletoeCourt court = Check.read(SHORTEST);
        check.due("not enough", court.see(0, 9, false), 1);
        check.due("enough", court.see(0, 1, true), 2);
        check.due("no need is left", court.suit(0, 8), 0);
    }

    static void promise17OneThatIsRightedMayBeSeen(Check check) {
        MistletoeCourt court = righted("10;c11-,c11-", 0);
        check.due("see", court.see(0, 3, true), 1);
        check.due("it stays righted", court.suit(0, 5), 1);
    }

    static void promise17TheLastCaseMayBeSeen(Check check) {
        MistletoeCourt court = Check.read(LONGEST);
        check.due("see(6, 3, true)", court.see(6, 3, true), 1);
        check.due("its needs", court.suit(6, 8), 7);
        check.due("not those of case 5", court.suit(5, 8), 511);
    }

    private static MistletoeCourt seenEightTimes() {
        MistletoeCourt court = Check.read(SHORTEST);
        for (int number = 1; number <= 8; number++) {
            court.see(0, 9, true);
        }
        return court;
    }

    // ---- promise 18: Nothing is SEEN any more: how much was.

    static void promise18WithoutAShireItIsNought(Check check) {
        check.due("forget()", new MistletoeCourt().forget(), 0);
    }

    static void promise18IfNothingIsSeenItIsNought(Check check) {
        MistletoeCourt court = Check.read(SHORTEST);
        long before = court.digest();
        check.due("forget()", court.forget(), 0);
        check.due("digest()", court.digest(), before);
    }

    static void promise18ItTellsHowMuchWas(Check check) {
        MistletoeCourt court = Check.read(SHORTEST);
        court.see(0, 1, true);
        check.due("one", court.forget(), 1);
        check.due("none then", court.forget(), 0);
        check.due("eight", seenEightTimes().forget(), 8);
    }

    static void promise18NothingIsSeenThen(Check check) {
        MistletoeCourt court = Check.read(SHORTEST);
        court.see(0, 9, false);
        court.see(1, 1, true);
        court.forget();
        check.due("seen", court.count(8), 0);
        check.due("needs of 0", court.suit(0, 8), 511);
        check.due("needs of 1", court.suit(1, 8), 511);
        check.due("try of 0", court.suit(0, 9), 4);
    }

    static void promise18ThereIsRoomThen(Check check) {
        MistletoeCourt court = seenEightTimes();
        court.forget();
        for (int number = 1; number <= 8; number++) {
            check.due("see number " + number, court.see(1, 1, true), number);
        }
        check.due("see number 9", court.see(1, 1, true), FULL);
        check.due("what was seen ahead is gone", court.suit(0, 8), 511);
    }

    static void promise18NothingElseChanges(Check check) {
        MistletoeCourt court = righted("95;c39-,c18-", 0);
        long before = court.digest();
        court.see(1, 1, true);
        court.forget();
        check.due("digest()", court.digest(), before);
    }

    // ---- promise 19: OUTSIDE: times (1 to 60), seed (0 at least), what; STATE: no SHIRE.

    static void promise19TimesBelow1AreOutside(Check check) {
        MistletoeCourt court = Check.read(LONGEST);
        for (int times : new int[] {LEAST, -1, 0}) {
            refused(check, court, "times " + times, () -> court.centuries(times, 1, 0), OUTSIDE);
        }
    }

    static void promise19TimesAbove60AreOutside(Check check) {
        MistletoeCourt court = Check.read(LONGEST);
        for (int times : new int[] {61, MOST}) {
            refused(check, court, "times " + times, () -> court.centuries(times, 1, 0), OUTSIDE);
        }
    }

    static void promise19ASeedBelow0IsOutside(Check check) {
        MistletoeCourt court = Check.read(LONGEST);
        for (int seed : new int[] {LEAST, -1}) {
            refused(check, court, "seed " + seed, () -> court.centuries(1, seed, 2), OUTSIDE);
        }
    }

    static void promise19WhatBelow0IsOutside(Check check) {
        MistletoeCourt court = Check.read(LONGEST);
        for (int what : new int[] {LEAST, -1}) {
            refused(check, court, "what " + what, () -> court.centuries(1, 1, what), OUTSIDE);
        }
    }

    static void promise19WhatAbove2IsOutside(Check check) {
        MistletoeCourt court = Check.read(LONGEST);
        for (int what : new int[] {3, MOST}) {
            refused(check, court, "what " + what, () -> court.centuries(1, 1, what), OUTSIDE);
        }
    }

    static void promise19NoShireIsState(Check check) {
        MistletoeCourt court = new MistletoeCourt();
        for (int what = 0; what <= 2; what++) {
            int asked = what;
            refused(check, court, "what " + what, () -> court.centuries(1, 0, asked), STATE);
        }
    }

    static void promise19OutsideComesBeforeState(Check check) {
        MistletoeCourt court = new MistletoeCourt();
        check.due("times 0", court.centuries(0, 1, 0), OUTSIDE);
        check.due("times 61", court.centuries(61, 1, 0), OUTSIDE);
        check.due("seed -1", court.centuries(1, -1, 0), OUTSIDE);
        check.due("what 3", court.centuries(1, 1, 3), OUTSIDE);
    }

    /** The seed behind so many draws. */
    private static long seedBehind(long seed, int draws) {
        long next = seed;
        for (int draw = 0; draw < draws; draw++) {
            next = (1103515245L * next + 12345L) % (1L << 31);
        }
        return next;
    }

    /** What the draw of this number (from 1) is, of so many. */
    private static int drawn(long seed, int number, int howMany) {
        return (int) (seedBehind(seed, number) / 65536 % howMany);
    }

    static void promise19OnceIsTwoDraws(Check check) {
        MistletoeCourt court = Check.read(LONGEST);
        check.due("the seed behind 1", court.centuries(1, 1, 2), seedBehind(1, 2));
        check.due("it is so with one tree and a year, too", Check.read(SHORTEST).centuries(1, 1, 2), seedBehind(1, 2));
    }

    static void promise19SixtyTimesAre120Draws(Check check) {
        check.due("the seed", Check.read(LONGEST).centuries(60, 5, 2), seedBehind(5, 120));
    }

    static void promise19TheLeastSeedIs0(Check check) {
        // The first draw makes it 12345.
        check.due("the seed", Check.read(SHORTEST).centuries(1, 0, 2), (1103515245L * 12345L + 12345L) % (1L << 31));
    }

    static void promise19TheGreatestSeedDoesNotWrapAsAnInt(Check check) {
        check.due("the seed", Check.read(SHORTEST).centuries(1, MOST, 2), 288979989);
        check.due("the seed of 60 times", Check.read(SHORTEST).centuries(60, MOST, 2), seedBehind(MOST, 120));
    }

    static void promise19TheCaseIsDrawnFirst(Check check) {
        // Only at tree 0 are there berries; what holds tells which case it was.
        MistletoeCourt court = Check.read("90,00,00;c11-,c12-");
        for (int seed = 0; seed < 40; seed++) {
            boolean isAtTree0 = drawn(seed, 2, 3) == 0;
            int worth = 1 + drawn(seed, 1, 2);
            check.due("how often by " + seed, court.centuries(1, seed, 0), isAtTree0 ? 1 : 0);
            check.due("what holds by " + seed, court.centuries(1, seed, 1), isAtTree0 ? worth : 0);
        }
    }

    static void promise19AllSevenCasesAndThreeTreesAreDrawn(Check check) {
        MistletoeCourt court = Check.read("00,00,90;c11-,c12-,c13-,c14-,c15-,c16-,c17-");
        for (int seed = 0; seed < 60; seed++) {
            int due = drawn(seed, 2, 3) == 2 ? 1 + drawn(seed, 1, 7) : 0;
            check.due("what holds by " + seed, court.centuries(1, seed, 1), due);
        }
    }

    static void promise19IfItMayNotBeItIsAYear(Check check) {
        // The year brings the one berry that the second time plucks.
        MistletoeCourt court = Check.read("01;c15-,c15-");
        check.due("how often in 1", court.centuries(1, 3, 0), 0);
        check.due("what holds behind 1", court.centuries(1, 3, 1), 0);
        check.due("how often in 2", court.centuries(2, 3, 0), 1);
        check.due("what holds behind 2", court.centuries(2, 3, 1), 5);
    }

    static void promise19OneThatIsRightedIsAYear(Check check) {
        MistletoeCourt court = righted("21;c11-,c11-", 0, 1);
        check.due("how often", court.centuries(60, 7, 0), 0);
        check.due("what holds", court.centuries(60, 7, 1), 2);
    }

    static void promise19AnOakThatMayNotBeIsAYear(Check check) {
        MistletoeCourt court = Check.read("90;c99-,o110");
        for (int seed = 0; seed < 20; seed++) {
            check.due("what holds by " + seed, court.centuries(1, seed, 1), drawn(seed, 1, 2) == 0 ? 9 : 0);
        }
    }

    static void promise19AnOakThatMayBeIsRighted(Check check) {
        MistletoeCourt onNone = Check.read("90;c99-,o11-");
        MistletoeCourt onCase1 = Check.read("90;c92-,c11-,o131");
        onCase1.right(1, 0);
        for (int seed = 0; seed < 20; seed++) {
            check.due("on none, by " + seed, onNone.centuries(1, seed, 1), drawn(seed, 1, 2) == 0 ? 9 : 1);
            check.due("on case 1, by " + seed, onCase1.centuries(1, seed, 1), drawn(seed, 1, 3) == 2 ? 4 : 1);
        }
    }

    static void promise19AMarriageCostsLessByWhatHangsOnIt(Check check) {
        MistletoeCourt court = Check.read("10;m39-,c910,c910");
        for (int seed = 0; seed < 20; seed++) {
            check.due("what holds by " + seed, court.centuries(1, seed, 1), drawn(seed, 1, 3) == 0 ? 9 : 0);
        }
    }

    static void promise19BehindAnotherShireItIsOfThat(Check check) {
        MistletoeCourt court = Check.read("99,99,99;o11-,m130,a121,u112,c113,c124,c135");
        court.centuries(60, 1, 0);
        Check.type(court, "01;c15-,o15-");
        court.shire();
        check.due("how often in 1", court.centuries(1, 3, 0), 0);
        check.due("how often in 2", court.centuries(2, 3, 0), 1);
        check.due("what holds behind 2", court.centuries(2, 3, 1), 5);
    }

    static void promise19WhatIsReopenedIsRightedAgain(Check check) {
        // Case 1 once more if it comes ahead of case 0.
        MistletoeCourt court = Check.read("99;c11-,c110");
        for (int seed = 0; seed < 20; seed++) {
            int due = drawn(seed, 1, 2) == 1 ? 3 : 2;
            check.due("how often by " + seed, court.centuries(60, seed, 0), due);
            check.due("what holds by " + seed, court.centuries(60, seed, 1), 2);
        }
    }

    static void promise19AYearInItLeaves20AtMost(Check check) {
        // 17 berries; the oak (a year), the murder of 18, the oak again: 2 berries are left for it, not 8.
        MistletoeCourt court = Check.read("89;u91-,o810");
        court.year();
        int seed = 0;
        for (int tried = 0; tried < 1000 && !isDrawn(seed, 1, 0, 1); tried++) {
            seed++;
        }
        check.due("the seed draws 1, 0, 1", isDrawn(seed, 1, 0, 1) ? 1 : 0, 1);
        check.due("how often in 2", court.centuries(2, seed, 0), 1);
        check.due("how often in 3", court.centuries(3, seed, 0), 1);
    }

    /** With one tree every second draw is that of a case. */
    private static boolean isDrawn(int seed, int first, int second, int third) {
        return drawn(seed, 1, 2) == first && drawn(seed, 3, 2) == second && drawn(seed, 5, 2) == third;
    }

    static void promise19OnlyRightingsInTheseCount(Check check) {
        MistletoeCourt court = righted("90;c15-,c96-", 0);
        check.due("how often", court.centuries(60, 1, 0), 0);
        check.due("what held stays", court.centuries(60, 1, 1), 5);
        check.due("how often any was", court.count(7), 1);
    }

    static void promise19NothingIsDoneByIt(Check check) {
        MistletoeCourt court = righted("95,37;c11-,m220,o131", 0);
        court.see(0, 3, true);
        court.image();
        long before = court.digest();
        for (int what = 0; what <= 2; what++) {
            court.centuries(60, 11, what);
        }
        check.due("digest()", court.digest(), before);
        court.restore();
        check.due("digest() behind a restore", court.digest(), before);
    }

    static void promise19TheSameSeedTellsTheSame(Check check) {
        MistletoeCourt court = Check.read("95,37;c11-,m220,o131,a452,u13-");
        int first = court.centuries(60, 11, 1);
        court.centuries(7, 3, 0);
        check.due("what holds again", court.centuries(60, 11, 1), first);
    }
}
