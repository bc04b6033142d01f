/** Promises 18 to 20 and 22: each sentence about kinds and images that names an edge, a test of its own. */
public final class KindsEdgeTest {
    private static final Check check = new Check();
    private static final int BAD = ScytheKeepers.BAD;
    private static final int NO = ScytheKeepers.NO;
    private static final int STATE = ScytheKeepers.STATE;
    private static final String SIX = "f0 9 20 6 1;f0 1 0 6 0;f0 5 19 6 0;f0 5 19 6 0;f0 5 19 6 0;f0 9 20 6 0;";

    public static void main(String[] args) {
        traceAtFirst();
        farmer();
        mower();
        late();
        son();
        cousin();
        snow();
        eachOnce();
        traceGrows();
        rateKindBeyond();
        rateWhoThereIsNot();
        rateBelowNothing();
        keepBeyond();
        keepAnswersDay();
        keepAnew();
        backBeyond();
        backOfNone();
        backOfAll();
        backKeepsTheImage();
        backNothingElse();
        backNothingUndone();
        check.finish();
    }

    private static void rateDue(ScytheKeepers x, int kind, int f, int want, int traced) {
        long before = x.trace();
        check.due("rate(" + kind + ", " + f + ")", x.rate(kind, f), want);
        check.due("trace() by rate(" + kind + ", " + f + ")", x.trace() - before, traced);
    }

    private static void traceAtFirst() {
        check.of("THE TRACE, 0 at first");
        check.due("trace() of a new object", new ScytheKeepers().trace(), 0);
        check.due("trace() of a new valley", Check.told(SIX).trace(), 0);
    }

    private static void farmer() {
        check.of("FARMER what is left of his FIELD (1).");
        ScytheKeepers x = Check.told(SIX);
        rateDue(x, 0, 0, 9, 1);
        rateDue(x, 0, 1, 1, 1);
        x.day(1);
        rateDue(x, 0, 1, 0, 1);
    }

    private static void mower() {
        check.of("MOWER up, and how many scythes hang with him (10).");
        ScytheKeepers x = Check.told(SIX);
        rateDue(x, 1, 0, 14, 11);
        rateDue(x, 1, 1, 2, 11);
        rateDue(x, 1, 5, 9, 11);
        x.hangs(0, 5);
        rateDue(x, 1, 5, 10, 11);
        rateDue(x, 1, 1, 1, 11);
    }

    private static void late() {
        check.of("LATE up less his SHAME (100).");
        ScytheKeepers x = Check.told(SIX);
        rateDue(x, 2, 0, -11, 101);
        rateDue(x, 2, 1, 1, 101);
        x.day(1);
        rateDue(x, 2, 1, 0, 101);
    }

    private static void son() {
        check.of("SON twice up (1000).");
        ScytheKeepers x = Check.told(SIX);
        rateDue(x, 3, 0, 28, 1011);
        rateDue(x, 3, 1, 4, 1011);
    }

    private static void cousin() {
        check.of("COUSIN up, and his number (10000).");
        ScytheKeepers x = Check.told(SIX);
        rateDue(x, 4, 0, -11, 10101);
        rateDue(x, 4, 5, -6, 10101);
    }

    private static void snow() {
        check.of("SNOW up, and DAY (100000).");
        ScytheKeepers x = Check.told(SIX);
        rateDue(x, 5, 0, 9, 100001);
        Check.days(x, 0, 19);
        rateDue(x, 5, 0, 28, 100001);
        rateDue(x, 5, 1, 20, 100001);
    }

    private static void eachOnce() {
        check.of("as often as rate() asks that body: each once");
        int[] traced = {1, 11, 101, 1011, 10101, 100001};
        ScytheKeepers x = Check.told(SIX);
        long sum = 0;
        for (int round = 0; round < 3; round++) {
            for (int kind = 0; kind <= 5; kind++) {
                x.rate(kind, 5);
                sum += traced[kind];
                check.due("trace()", x.trace(), sum);
            }
        }
    }

    private static void traceGrows() {
        check.of("`long trace()`: THE TRACE.");
        ScytheKeepers x = Check.told("f0 1 0 0 1;f0 1 0 0 0;");
        for (int i = 0; i < 480; i++) {
            x.rate(5, 0);
        }
        check.due("trace()", x.trace(), 48000480L);
        check.due("trace() again", x.trace(), 48000480L);
    }

    private static void rateKindBeyond() {
        check.of("RATE. NO: BAD.");
        check.refused("rate(6, 0)", Check::busy, x -> x.rate(6, 0), NO);
        for (int kind : Check.FAR_OFF) {
            check.refused("rate(" + kind + ", 0)", Check::busy, x -> x.rate(kind, 0), NO);
        }
    }

    private static void rateWhoThereIsNot() {
        check.of("RATE. NO: BAD.");
        for (int k = 0; k <= 5; k++) {
            int kind = k;
            check.refused("rate(" + kind + ", 3) of three", Check::busy, x -> x.rate(kind, 3), NO);
            check.refused("rate(" + kind + ", -1)", Check::busy, x -> x.rate(kind, -1), NO);
            check.refused("rate(" + kind + ", 0) of none", ScytheKeepers::new, x -> x.rate(kind, 0), NO);
        }
        for (int f : Check.FAR_OFF) {
            check.refused("rate(0, " + f + ")", Check::busy, x -> x.rate(0, f), NO);
        }
    }

    private static void rateBelowNothing() {
        check.of("`NO = -1000000`: What is BAD, where a number may be below 0.");
        ScytheKeepers x = Check.told("f0 1 20 6 1;f0 1 2 6 0;");
        check.due("NO", NO, -1000000);
        check.due("rate(2, 1): -1 is no refusal", x.rate(2, 1), -1);
        check.due("rate(2, 0): the lowest of told ones", x.rate(2, 0), -19);
    }

    private static void keepBeyond() {
        check.of("An IMAGE is kept: DAY. BAD.");
        check.refused("keep(2)", Check::busy, x -> x.keep(2), BAD);
        for (int image : Check.FAR_OFF) {
            check.refused("keep(" + image + ")", Check::busy, x -> x.keep(image), BAD);
        }
    }

    private static void keepAnswersDay() {
        check.of("An IMAGE is kept: DAY.");
        ScytheKeepers x = new ScytheKeepers();
        check.due("keep(0) of none", x.keep(0), 0);
        Check.days(x, 1, 7);
        check.due("keep(1)", x.keep(1), 7);
        check.due("back(0)", x.back(0), 0);
        check.due("back(1)", x.back(1), 7);
        ScytheKeepers z = Check.busy();
        z.keep(1);
        check.due("what may be UNDONE", z.now(4), 3);
        check.due("undo()", z.undo(), 2);
    }

    private static void keepAnew() {
        check.of("IMAGES 0, 1 keep NOW (DAY, who has ASKED, FIELDS, KEEPERS)");
        ScytheKeepers x = Check.busy();
        x.day(1);
        check.due("keep(0) over what was kept", x.keep(0), 2);
        x.day(1);
        check.due("back(0)", x.back(0), 2);
        check.due("back(1): the other one is not kept by it", x.back(1), STATE);
    }

    private static void backBeyond() {
        check.of("All of that becomes as an IMAGE has it: DAY. BAD; STATE: none was kept.");
        check.refused("back(2)", Check::busy, x -> x.back(2), BAD);
        for (int image : Check.FAR_OFF) {
            check.refused("back(" + image + ")", Check::busy, x -> x.back(image), BAD);
        }
    }

    private static void backOfNone() {
        check.of("BAD; STATE: none was kept.");
        check.refused("back(1), 0 being kept", Check::busy, x -> x.back(1), STATE);
        check.refused("back(0) of a new object", ScytheKeepers::new, x -> x.back(0), STATE);
        check.refused("back(1) of a new object", ScytheKeepers::new, x -> x.back(1), STATE);
        ScytheKeepers x = new ScytheKeepers();
        x.keep(1);
        check.due("back(0), 1 being kept", x.back(0), STATE);
        check.due("back(1)", x.back(1), 0);
    }

    private static void backOfAll() {
        check.of("All of that becomes as an IMAGE has it: DAY.");
        ScytheKeepers x = Check.told(SIX);
        x.day(1);
        x.brings(5);
        x.hangs(0, 5);
        x.keep(1);
        x.brings(0);
        x.hangs(4, 5);
        Check.days(x, 1, 30);
        check.due("all is mown", x.now(2), 0);
        check.due("back(1)", x.back(1), 1);
        check.due("DAY", x.now(0), 1);
        check.due("who has ASKED", x.now(1), 34);
        int[] left = {9, 0, 5, 5, 5, 9};
        int[] keepers = {5, 0, 0, 0, 0, 0};
        for (int f = 0; f < 6; f++) {
            check.due("left of " + f, x.farmer(f, 1), left[f]);
            check.due("KEEPER of " + f, x.farmer(f, 4), keepers[f]);
        }
    }

    private static void backKeepsTheImage() {
        check.of("All of that becomes as an IMAGE has it: DAY.");
        ScytheKeepers x = Check.busy();
        for (int round = 0; round < 3; round++) {
            check.due("back(0)", x.back(0), 1);
            check.due("left of 1", x.farmer(1, 1), 5);
            check.due("KEEPER of 0", x.farmer(0, 4), 1);
            check.due("who has ASKED", x.now(1), 2);
            x.hangs(0, 2);
            x.brings(0);
            x.day(1);
        }
    }

    private static void backNothingElse() {
        check.of("nothing else (nothing can be UNDONE behind back())");
        ScytheKeepers x = Check.busy();
        x.sees(5, 2, 1);
        x.rate(0, 0);
        Check.write(x, "f0 1");
        x.keep(1);
        check.due("back(0)", x.back(0), 1);
        check.due("SEEN", x.count(1), 2);
        check.due("ONES", x.ones(0), 4);
        check.due("trace()", x.trace(), 10102);
        check.due("letters", x.count(2), 4);
        check.due("the other IMAGE", x.back(1), 1);
        check.due("KEEPER of the other IMAGE", x.farmer(0, 4), 2);
    }

    private static void backNothingUndone() {
        check.of("(nothing can be UNDONE behind back())");
        ScytheKeepers x = Check.busy();
        x.back(0);
        check.due("now(4)", x.now(4), 0);
        check.due("undo()", x.undo(), STATE);
        check.due("DAY", x.now(0), 1);
        x.day(1);
        check.due("a DAY behind it may be", x.now(4), 1);
        check.due("undo()", x.undo(), 0);
        check.due("DAY", x.now(0), 1);
        check.due("undo() no more", x.undo(), STATE);
    }
}
