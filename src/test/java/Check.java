/** Counts and prints answers that are not as due. */
final class Check {
    private final String test;
    private int wrong = 0;
    private int asked = 0;

    Check(String test) {
        this.test = test;
    }

    void due(String call, long got, long want) {
        asked++;
        if (got != want) {
            wrong++;
            System.out.println(test + ": " + call + " answered " + got + ", due is " + want);
        }
    }

    void due(String call, boolean got, boolean want) {
        due(call, got ? 1 : 0, want ? 1 : 0);
    }

    int wrong() {
        return wrong;
    }

    /** The end of a test's main. */
    void finish() {
        System.out.println(test + ": " + asked + " answers, " + wrong + " not as due");
        if (wrong != 0) {
            System.exit(1);
        }
    }

    /** Feeds a text of any length and cuts the tape behind it. */
    static void write(MatchBook book, String text) {
        int before = book.feed(0, 0, 0, 0, 0) - 20;
        book.end(before);
        int at = 0;
        while (at < text.length()) {
            int[] five = new int[5];
            for (int k = 0; k < 20; k++) {
                int sign = at + k < text.length() ? text.charAt(at + k) & 255 : ' ';
                five[k / 4] = five[k / 4] << 8 | sign;
            }
            book.feed(five[0], five[1], five[2], five[3], five[4]);
            at += 20;
        }
        book.end(before + text.length());
    }

    /** Writes a text on an empty tape and takes it. */
    static int text(MatchBook book, int whose, String text) {
        book.end(0);
        write(book, text);
        return book.text(whose);
    }
}
