/** Promises 18 to 20 and 22: RATE by KINDS, THE TRACE, IMAGES. */
public final class KindsTest {
    private static final Check check = new Check();

    public static void main(String[] args) {
        rates();
        ratesRefused();
        images();
        imagesRefused();
        check.finish();
    }

    private static void rateDue(ScytheKeepers x, int kind, int f, int want, int traced) {
        long before = x.trace();
        check.due("rate(" + kind + ", " + f + ")", x.rate(kind, f), want);
        check.due("THE TRACE of rate(" + kind + ", " + f + ")", x.trace() - before, traced);
    }

    private static void rates() {
        ScytheKeepers x = Check.told("f0 2 20 6 1;f0 9 17 6 2;f0 5 19 6 1;f0 1 0 6 1;");
        Check.days(x, 1, 5);
        rateDue(x, 0, 1, 9, 1);
        rateDue(x, 1, 1, 12, 11);
        rateDue(x, 2, 1, -8, 101);
        rateDue(x, 3, 1, 24, 1011);
        rateDue(x, 4, 1, -7, 10101);
        rateDue(x, 5, 1, 14, 100001);
        rateDue(x, 0, 3, 0, 1);
        rateDue(x, 3, 3, 0, 1011);
        rateDue(x, 4, 3, 3, 10101);
        check.due("trace()", x.trace(), 1 + 11 + 101 + 1011 + 10101 + 100001 + 1 + 1011 + 10101);
        x.hangs(0, 3);
        rateDue(x, 1, 3, 1, 11);
        rateDue(x, 1, 1, 11, 11);
    }

    private static void ratesRefused() {
        ScytheKeepers x = Check.told("f0 2 20 6 1;f0 9 17 6 0;");
        check.due("rate(6, 0)", x.rate(6, 0), ScytheKeepers.NO);
        check.due("rate(-1, 0)", x.rate(-1, 0), ScytheKeepers.NO);
        check.due("rate(0, 2)", x.rate(0, 2), ScytheKeepers.NO);
        check.due("rate(0, -1)", x.rate(0, -1), ScytheKeepers.NO);
        check.due("THE TRACE as before", x.trace(), 0);
    }

    private static void images() {
        ScytheKeepers x = Check.told("f0 2 0 6 1;f0 9 20 6 0;f0 5 20 6 0;");
        x.day(1);
        x.hangs(1, 2);
        check.due("keep(0)", x.keep(0), 1);
        check.due("keep() leaves what may be UNDONE", x.now(4), 2);
        x.undo();
        x.day(1);
        x.brings(2);
        check.due("keep(1)", x.keep(1), 2);
        x.sees(1, 1, 1);
        x.rate(0, 0);
        Check.write(x, "f1");
        check.due("back(0)", x.back(0), 1);
        check.due("nothing can be UNDONE", x.now(4), 0);
        check.due("undo()", x.undo(), ScytheKeepers.STATE);
        check.due("DAY", x.now(0), 1);
        check.due("ASKED", x.now(1), 1);
        check.due("FIELD", x.farmer(0, 1), 1);
        check.due("KEEPER", x.farmer(1, 4), 2);
        check.due("SEEN is no IMAGE's", x.count(1), 1);
        check.due("THE TRACE is no IMAGE's", x.trace(), 1);
        check.due("THE TEXT is no IMAGE's", x.count(2), 2);
        x.day(1);
        check.due("back(1)", x.back(1), 2);
        check.due("ASKED", x.now(1), 5);
        check.due("FIELD", x.farmer(0, 1), 0);
        check.due("KEEPER", x.farmer(1, 4), 0);
        Check.days(x, 1, 2);
        check.due("back(0) again: it is not changed by what came behind it", x.back(0), 1);
        check.due("FIELDS", x.now(2), 15);
        x.day(1);
        check.due("keep(0) anew", x.keep(0), 2);
        x.day(1);
        check.due("back(0) to the later one", x.back(0), 2);
    }

    private static void imagesRefused() {
        ScytheKeepers x = Check.told("f0 2 0 6 1;f0 9 20 6 0;");
        x.day(1);
        check.due("keep(2)", x.keep(2), ScytheKeepers.BAD);
        check.due("keep(-1)", x.keep(-1), ScytheKeepers.BAD);
        check.due("back(2)", x.back(2), ScytheKeepers.BAD);
        check.due("back(-1)", x.back(-1), ScytheKeepers.BAD);
        check.due("back(0)", x.back(0), ScytheKeepers.STATE);
        check.due("back(1)", x.back(1), ScytheKeepers.STATE);
        check.due("UNDONE as before", x.now(4), 1);
        x.keep(1);
        check.due("the other one", x.back(0), ScytheKeepers.STATE);
        check.due("UNDONE as before", x.now(4), 1);
    }
}
