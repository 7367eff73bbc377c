/** Counts answers that are not as due, and packs texts for feed(). */
final class Check {
    private final String name;
    private int asked;
    private int wrong;

    Check(String name) {
        this.name = name;
    }

    void due(String call, int got, int want) {
        asked++;
        if (got != want) {
            wrong++;
            System.out.println(name + ": " + call + " answered " + got + ", due is " + want);
        }
    }

    void due(String call, boolean got, boolean want) {
        due(call, got ? 1 : 0, want ? 1 : 0);
    }

    /** Ends the test: exit code 1 if an answer was wrong. */
    void close() {
        System.out.println(name + ": " + asked + " answers, " + wrong + " wrong");
        if (wrong != 0) {
            System.exit(1);
        }
    }

    static int cell(int x, int y) {
        return 60 * y + x;
    }

    /** Lays a text on the empty tape of bytes; signs above 255 are not for it. */
    static void lay(BangSquare square, String text) {
        for (int i = 0; i < text.length(); i += 20) {
            square.feed(four(text, i), four(text, i + 4), four(text, i + 8), four(text, i + 12), four(text, i + 16));
        }
        square.end(text.length());
    }

    static int text(BangSquare square, int k, String text) {
        lay(square, text);
        return square.text(k);
    }

    static int four(String text, int at) {
        int number = 0;
        for (int i = at; i < at + 4; i++) {
            number = number << 8 | (i < text.length() ? text.charAt(i) & 255 : ' ');
        }
        return number;
    }
}
