/** Promises 1 to 5: a new object, the page, and the reading of a shire. */
public final class PageTest {
    private static final Check CHECK = new Check("PageTest");

    public static void main(String[] args) {
        aNewObjectHasNothing();
        letters();
        blank();
        faults();
        shires();
        aShireReadAgain();
        CHECK.end();
    }

    private static void aNewObjectHasNothing() {
        MistletoeCourt court = new MistletoeCourt();
        for (int what = 0; what <= 11; what++) {
            CHECK.due("new: count(" + what + ")", court.count(what), 0);
        }
        CHECK.due("new: tree", court.tree(0, 0), MistletoeCourt.UNKNOWN);
        CHECK.due("new: suit", court.suit(0, 0), MistletoeCourt.UNKNOWN);
        CHECK.due("new: as", court.as(0, 0), MistletoeCourt.UNKNOWN);
        CHECK.due("new: right", court.right(0, 0), MistletoeCourt.UNKNOWN);
        CHECK.due("new: year", court.year(), MistletoeCourt.STATE);
        CHECK.due("new: birds", court.birds(0, 0), MistletoeCourt.UNKNOWN);
        CHECK.due("new: plead", court.plead(0, 1, 1), MistletoeCourt.UNKNOWN);
        CHECK.due("new: walk", court.walk(0), MistletoeCourt.UNKNOWN);
        CHECK.due("new: plan", court.plan(0), MistletoeCourt.STATE);
        CHECK.due("new: game", court.game(0, 0), MistletoeCourt.UNKNOWN);
        CHECK.due("new: odds", court.odds(0, 0, 1, 0), MistletoeCourt.UNKNOWN);
        CHECK.due("new: see", court.see(0, 1, true), MistletoeCourt.UNKNOWN);
        CHECK.due("new: forget", court.forget(), 0);
        CHECK.due("new: centuries", court.centuries(1, 0, 0), MistletoeCourt.STATE);
        CHECK.due("new: image", court.image(), MistletoeCourt.STATE);
        CHECK.due("new: restore", court.restore(), MistletoeCourt.STATE);
        CHECK.due("new: blank", court.blank(), 0);
        CHECK.due("new: fault", court.fault(), 0);
        CHECK.due("new: shire", court.shire(), MistletoeCourt.STATE);
        CHECK.due("new: count(11) behind a refused plan", court.count(11), 0);
    }

    private static void letters() {
        MistletoeCourt court = new MistletoeCourt();
        CHECK.due("letter(31)", court.letter(31), MistletoeCourt.OUTSIDE);
        CHECK.due("letter(127)", court.letter(127), MistletoeCourt.OUTSIDE);
        CHECK.due("letter(-1)", court.letter(-1), MistletoeCourt.OUTSIDE);
        CHECK.due("letter(least)", court.letter(Integer.MIN_VALUE), MistletoeCourt.OUTSIDE);
        CHECK.due("letter(greatest)", court.letter(Integer.MAX_VALUE), MistletoeCourt.OUTSIDE);
        CHECK.due("letters behind refusals", court.count(9), 0);
        CHECK.due("letter(32)", court.letter(32), 1);
        CHECK.due("letter(126)", court.letter(126), 2);
        for (int number = 3; number <= 46; number++) {
            CHECK.due("letter number " + number, court.letter('9'), number);
        }
        CHECK.due("letter number 47", court.letter('9'), MistletoeCourt.FULL);
        CHECK.due("outside comes before full", court.letter(127), MistletoeCourt.OUTSIDE);
        CHECK.due("letters when full", court.count(9), 46);
    }

    private static void blank() {
        MistletoeCourt court = new MistletoeCourt();
        Check.type(court, "99;");
        CHECK.due("blank", court.blank(), 3);
        CHECK.due("blank twice", court.blank(), 0);
        CHECK.due("letters behind blank", court.count(9), 0);
        CHECK.due("letter behind blank", court.letter('0'), 1);
        court.blank();
        for (int number = 1; number <= 46; number++) {
            court.letter('x');
        }
        CHECK.due("blank when full", court.blank(), 46);
    }

    private static void faults() {
        fault("", 0);
        fault("x", 0);
        fault("-", 0);
        fault("0", 1);
        fault("0;", 1);
        fault("0-", 1);
        fault("00", 2);
        fault("00,", 3);
        fault("000", 2);
        fault("00-", 2);
        fault("00,;", 3);
        fault("00,9", 4);
        fault("00,99,88", 8);
        fault("00,99,88,", 8);
        fault("00,99,88;", 9);
        fault("00;;", 3);
        fault("00;C", 3);
        fault("00;b", 3);
        fault("00;1", 3);
        fault("00;c", 4);
        fault("00;c0", 4);
        fault("00;c1", 5);
        fault("00;cc", 4);
        fault("00;c10", 5);
        fault("00;c1-", 5);
        fault("00;c990", 6);
        fault("00;c99,", 6);
        fault("00;c99-", 7);
        fault("00;c99-;", 7);
        fault("00;c99--", 7);
        fault("00;c99-,", 8);
        fault("00;c99-,,", 8);
        fault("00;c99-,m110", 12);
        fault("00;c99-,m111", 11);
        fault("00;c99-,m11-,u112", 16);
        fault("00;c99-,m11-,u111", 17);
        fault("00;c99-,m11-,u11/", 16);
        fault("00;c99-,m11-,u11:", 16);
        fault("00 ;c99-,m11-", 2);
        fault("11,22,33;c11-,m120,u131,o142,a153,c164,m175", 43);
        fault("11,22,33;c11-,m120,u131,o142,a153,c164,m175,", 43);
        fault("11,22,33;c11-,m120,u131,o142,a153,c164,m175x", 43);
        fault("11,22,33;c11-,m120,u131,o142,a153,c164,m176", 42);
        fault("1,1,1,1,1,1", 1);
    }

    private static void fault(String text, int place) {
        MistletoeCourt court = new MistletoeCourt();
        Check.type(court, text);
        CHECK.due("fault of " + text, court.fault(), place);
        CHECK.due("fault again of " + text, court.fault(), place);
        CHECK.due("letters behind fault of " + text, court.count(9), text.length());
    }

    private static void shires() {
        shire("11,22,33;c11-,m120,u131,o142,a153,c164,m175", 7);
        shire("00;c11-,c11-", 2);
        shire("99,00;a99-,o990,u99-", 3);
        shire("00;c11-", MistletoeCourt.STATE);
        shire("00;c11-,", MistletoeCourt.STATE);
        shire("00;c11-,c11", MistletoeCourt.STATE);
        shire("00;c11-,c11-,", MistletoeCourt.STATE);
        shire("00;c11-,c11- ", MistletoeCourt.STATE);
        shire("00,11,22,33;c11-,c11-", MistletoeCourt.STATE);
        shire("00", MistletoeCourt.STATE);
        shire("", MistletoeCourt.STATE);
    }

    private static void shire(String text, int due) {
        MistletoeCourt court = new MistletoeCourt();
        Check.type(court, text);
        CHECK.due("shire of " + text, court.shire(), due);
        CHECK.due("letters behind shire of " + text, court.count(9), due < 0 ? text.length() : 0);
        CHECK.due("readings behind shire of " + text, court.count(10), due < 0 ? 0 : 1);
        CHECK.due("cases behind shire of " + text, court.count(1), due < 0 ? 0 : due);
    }

    private static void aShireReadAgain() {
        MistletoeCourt court = Check.read("99,88;c11-,m220");
        court.right(0, 0);
        court.year();
        court.see(0, 1, true);
        court.image();
        court.plan(0);
        Check.type(court, "no shire");
        CHECK.due("a refused shire", court.shire(), MistletoeCourt.STATE);
        CHECK.due("what holds behind it", court.count(5), 1);
        CHECK.due("the image stands behind it", court.restore(), 1);
        court.blank();
        Check.type(court, "12;u34-,o560,a780");
        CHECK.due("another shire", court.shire(), 3);
        int[] due = {1, 3, 1, 2, 0, 0, 0, 0, 0, 0, 2, 1};
        for (int what = 0; what < due.length; what++) {
            CHECK.due("behind another shire: count(" + what + ")", court.count(what), due[what]);
        }
        CHECK.due("no image behind another shire", court.restore(), MistletoeCourt.STATE);
        CHECK.due("no second tree any more", court.tree(1, 0), MistletoeCourt.UNKNOWN);
        CHECK.due("what hangs on case 0 now", court.suit(0, 6), 6);
        CHECK.due("the marriage is an oak now", court.suit(1, 0), 3);
        CHECK.due("the case is a murder now", court.suit(0, 4), 6);
        CHECK.due("needs are all free again", court.suit(0, 8), 511);
        Check.type(court, "12;u34-,m56-,a78-");
        CHECK.due("a third shire", court.shire(), 3);
        CHECK.due("nothing hangs on case 0 now", court.suit(0, 6), 0);
        CHECK.due("the marriage costs all it needs", court.suit(1, 4), 5);
        CHECK.due("readings", court.count(10), 3);
    }
}
