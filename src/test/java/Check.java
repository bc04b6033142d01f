import java.io.IOException;
import java.nio.file.Files;
import java.nio.file.Path;
import java.util.function.Supplier;
import java.util.function.ToIntFunction;

/** What the project's tests share: an answer against the one that is due, and an exit code. */
final class Check {
    /** Numbers that no call takes, but for hang(-1). */
    static final int[] FAR_OFF = {Integer.MIN_VALUE, -1000, -2, -1, 1000, Integer.MAX_VALUE};

    static final Path DOCUMENT = Path.of("../shared/DOC.md");

    private String sentence = "";
    private int asked;
    private int wrong;

    /** What is due from here on is due by this sentence, which must stand in the document. */
    void of(String words) {
        sentence = "[" + words + "] ";
        holds("the document says it", Holder.DOCUMENT_WORDS.contains(words));
    }

    void due(String call, long got, long want) {
        asked++;
        if (got != want) {
            wrong++;
            System.out.println(sentence + call + " answered " + got + ", due is " + want);
        }
    }

    void holds(String what, boolean so) {
        due(what, so ? 1 : 0, 1);
    }

    /** A call that is refused: its answer, and that nothing changes by it. */
    void refused(String call, Supplier<ScytheKeepers> made, ToIntFunction<ScytheKeepers> body, int want) {
        ScytheKeepers x = made.get();
        due(call, body.applyAsInt(x), want);
        holds(call + " changes nothing", Whole.of(x).equals(Whole.of(made.get())));
    }

    /** A call that only tells: nothing changes by it. */
    void changesNothing(String call, Supplier<ScytheKeepers> made, ToIntFunction<ScytheKeepers> body) {
        ScytheKeepers x = made.get();
        body.applyAsInt(x);
        holds(call + " changes nothing", Whole.of(x).equals(Whole.of(made.get())));
    }

    void finish() {
        System.out.println(asked + " answers, " + wrong + " wrong");
        if (asked == 0 || wrong != 0) {
            System.exit(1);
        }
    }

    static void write(ScytheKeepers keepers, String text) {
        for (int i = 0; i < text.length(); i++) {
            keepers.type(text.charAt(i));
        }
    }

    static int read(ScytheKeepers keepers, String text) {
        write(keepers, text);
        return keepers.valley();
    }

    /** An object to which a right text was told. */
    static ScytheKeepers told(String text) {
        ScytheKeepers keepers = new ScytheKeepers();
        if (read(keepers, text) < 0) {
            throw new IllegalArgumentException(text);
        }
        return keepers;
    }

    /** A valley of three in which all that can be changed has been. */
    static ScytheKeepers busy() {
        ScytheKeepers x = told("f1 9 3 4 1;f5 6 7 2 0;f9 3 9 6 0;");
        x.brings(1);
        x.day(1);
        x.keep(0);
        x.hangs(0, 2);
        x.sees(4, 2, 0);
        x.rate(4, 1);
        return x;
    }

    static void days(ScytheKeepers keepers, int dry, int n) {
        for (int i = 0; i < n; i++) {
            keepers.day(dry);
        }
    }

    /** The document is read only by tests that quote it, and once. */
    private static final class Holder {
        private static final String DOCUMENT_WORDS = words();

        private static String words() {
            try {
                return Files.readString(DOCUMENT).replaceAll("\\s+", " ");
            } catch (IOException e) {
                throw new IllegalStateException("no document at " + DOCUMENT, e);
            }
        }
    }
}
