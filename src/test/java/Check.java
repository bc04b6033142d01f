/** What the project's tests share: an answer against the one that is due, and an exit code. */
final class Check {
    private int asked;
    private int wrong;

    void due(String call, long got, long want) {
        asked++;
        if (got != want) {
            wrong++;
            System.out.println(call + " answered " + got + ", due is " + want);
        }
    }

    void finish() {
        System.out.println(asked + " answers, " + wrong + " wrong");
        if (asked == 0 || wrong != 0) {
            System.exit(1);
        }
    }

    static void write(ScytheKeepers keepers, String text) {
        for (int i = 0; i < text.length(); i++) {
            keepers.type(text.charAt(i));
        }
    }

    static int read(ScytheKeepers keepers, String text) {
        write(keepers, text);
        return keepers.valley();
    }

    /** An object to which a right text was told. */
    static ScytheKeepers told(String text) {
        ScytheKeepers keepers = new ScytheKeepers();
        if (read(keepers, text) < 0) {
            throw new IllegalArgumentException(text);
        }
        return keepers;
    }

    static void days(ScytheKeepers keepers, int dry, int n) {
        for (int i = 0; i < n; i++) {
            keepers.day(dry);
        }
    }
}
