import java.util.ArrayList;
import java.util.List;

/** Promises 20 to 23: image, restore, count, digest. */
public final class WholeTest {
    private static final Check CHECK = new Check("WholeTest");

    public static void main(String[] args) {
        images();
        imagesOfAnotherShire();
        counts();
        digests();
        CHECK.end();
    }

    private static void images() {
        MistletoeCourt court = Check.read("92,61;c12-,m340,o561");
        court.right(0, 1);
        court.see(0, 3, true);
        court.year();
        CHECK.due("image", court.image(), 1);
        long whole = court.digest();
        court.year();
        court.right(1, 0);
        court.walk(0);
        court.birds(0, 9);
        court.plead(0, 7, 8);
        court.see(1, 1, false);
        court.forget();
        court.see(2, 9, false);
        CHECK.due("restore", court.restore(), 1);
        CHECK.due("all is as it was", court.digest(), whole);
        CHECK.due("restore again", court.restore(), 1);
        court.year();
        CHECK.due("a later image", court.image(), 2);
        court.restore();
        CHECK.due("the latest is restored", court.count(6), 2);
        court.plan(0);
        Check.type(court, "12");
        court.restore();
        CHECK.due("the page is not restored", court.count(9), 2);
        CHECK.due("plans are not restored", court.count(11), 1);
        CHECK.due("readings are not restored", court.count(10), 1);
    }

    private static void imagesOfAnotherShire() {
        MistletoeCourt court = new MistletoeCourt();
        CHECK.due("image without a shire", court.image(), MistletoeCourt.STATE);
        CHECK.due("restore without an image", court.restore(), MistletoeCourt.STATE);
        Check.type(court, "92;c12-,m340");
        court.shire();
        CHECK.due("restore without an image of this shire", court.restore(), MistletoeCourt.STATE);
        court.image();
        Check.type(court, "92;c12-,m340");
        CHECK.due("restore while another shire is only on the page", court.restore(), 0);
        court.shire();
        CHECK.due("restore behind the same text", court.restore(), MistletoeCourt.STATE);
        CHECK.due("image of it", court.image(), 0);
        CHECK.due("restore of it", court.restore(), 0);
    }

    private static void counts() {
        MistletoeCourt court = Check.read("92,61,03;c12-,m340,o561,a112");
        court.right(1, 0);
        court.right(3, 0);
        court.year();
        court.year();
        court.year();
        court.see(0, 1, true);
        court.plan(0);
        court.plan(1);
        Check.type(court, "12345");
        int[] due = {3, 4, 12 + 9 + 9, 6, 2, 5, 3, 2, 1, 5, 1, 2};
        for (int what = 0; what < due.length; what++) {
            CHECK.due("count(" + what + ")", court.count(what), due[what]);
        }
        CHECK.due("count(12)", court.count(12), MistletoeCourt.OUTSIDE);
        CHECK.due("count(-1)", court.count(-1), MistletoeCourt.OUTSIDE);
    }

    private static void digests() {
        MistletoeCourt none = new MistletoeCourt();
        CHECK.due("digest of none", none.digest(), digestOf(none, ""));
        MistletoeCourt court = Check.read("92,61,03;c12-,m340,o561,a112,u240");
        court.right(1, 0);
        court.year();
        court.see(4, 9, false);
        court.plan(0);
        Check.type(court, "99;~ ");
        CHECK.due("digest", court.digest(), digestOf(court, "99;~ "));
        CHECK.due("digest changes nothing", court.digest(), digestOf(court, "99;~ "));
    }

    private static long digestOf(MistletoeCourt court, String page) {
        List<Integer> numbers = new ArrayList<>();
        for (int tree = 0; tree < court.count(0); tree++) {
            for (int what = 0; what <= 2; what++) {
                numbers.add(court.tree(tree, what));
            }
            numbers.add(court.game(tree, 0));
            numbers.add(court.game(tree, 1));
        }
        for (int suit = 0; suit < court.count(1); suit++) {
            for (int what = 0; what <= 9; what++) {
                numbers.add(court.suit(suit, what));
            }
            numbers.add(court.odds(suit, 0, 2, 0));
            numbers.add(court.odds(suit, 0, 2, 1));
        }
        for (char letter : page.toCharArray()) {
            numbers.add((int) letter);
        }
        for (int what = 0; what <= 11; what++) {
            numbers.add(court.count(what));
        }
        long h = 1229;
        for (int number : numbers) {
            h = 31 * h + number;
        }
        return h;
    }
}
