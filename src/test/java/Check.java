/** Counts the answers that are not as due; every test of the project is made with one. */
final class Check {
    private final String name;
    private int made;
    private int wrong;

    Check(String name) {
        this.name = name;
    }

    void due(String call, long got, long want) {
        made++;
        if (got != want) {
            wrong++;
            System.out.println(name + ": " + call + " answered " + got + ", due is " + want);
        }
    }

    void isTrue(String what, boolean holds) {
        due(what, holds ? 1 : 0, 1);
    }

    int made() {
        return made;
    }

    boolean hasWrong() {
        return wrong > 0;
    }

    void end() {
        System.out.println(name + ": " + made + " answers looked at, " + wrong + " not as due");
        if (wrong > 0) {
            System.exit(1);
        }
    }

    static void type(MistletoeCourt court, String text) {
        for (int place = 0; place < text.length(); place++) {
            court.letter(text.charAt(place));
        }
    }

    static MistletoeCourt read(String text) {
        MistletoeCourt court = new MistletoeCourt();
        type(court, text);
        if (court.shire() < 0) {
            throw new IllegalArgumentException("no shire: " + text);
        }
        return court;
    }
}
