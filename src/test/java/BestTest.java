/** Promises 11 to 13 (START, HANG, ODDS), and what farmer() and now() tell of RINGS and of days to come. */
public final class BestTest {
    private static final Check check = new Check();

    public static void main(String[] args) {
        starts();
        hangsBest();
        oddsOfFields();
        rings();
        daysToCome();
        check.finish();
    }

    private static void starts() {
        ScytheKeepers x = Check.told("f0 1 20 1 1;f0 1 20 1 0;f0 1 20 2 0;f0 1 3 6 0;");
        check.due("start(0)", x.start(0), 15);
        // 3 has no nerve: till DAY 3 he must be brought
        check.due("start(1)", x.start(1), 9);
        check.due("start(2)", x.start(2), 8);
        check.due("start(3)", x.start(3), 8);
        // one who has is all that the others wait for: the least set of one
        check.due("start(4)", x.start(4), 1);
        check.due("start(5)", x.start(5), 1);
        check.due("start(6)", x.start(6), 0);
        check.due("start(20)", x.start(20), 0);
        check.due("start(-1)", x.start(-1), ScytheKeepers.BAD);
        check.due("start(21)", x.start(21), ScytheKeepers.BAD);
        check.due("nothing changed", x.now(1) + x.now(0) + x.now(4), 0);
        x.brings(3);
        check.due("start(1), 3 having ASKED", x.start(1), 1);
        check.due("start(2), 3 having ASKED", x.start(2), 0);
        x.undo();
        Check.days(x, 0, 2);
        check.due("start(2) on DAY 2", x.start(2), 1);
        check.due("start(4) on DAY 2", x.start(4), 0);
        check.due("nobody", new ScytheKeepers().start(0), 0);
        check.due("nobody, start(21)", new ScytheKeepers().start(21), ScytheKeepers.BAD);
    }

    private static void hangDue(String text, int far, int... keepers) {
        ScytheKeepers x = Check.told(text);
        check.due("hang(-1) of " + text, x.hang(-1), far);
        for (int f = 0; f < keepers.length; f++) {
            check.due("hang(" + f + ") of " + text, x.hang(f), keepers[f]);
        }
        check.due("hang(-2)", x.hang(-2), ScytheKeepers.BAD);
        check.due("hang(" + keepers.length + ")", x.hang(keepers.length), ScytheKeepers.BAD);
    }

    private static void hangsBest() {
        hangDue("f0 1 0 0 1;f30 1 0 0 0;", 60, 1, 0);
        hangDue("f7 1 0 0 1;f7 1 0 0 0;f7 1 0 0 0;", 0, 1, 2, 0);
        hangDue("f7 1 0 0 1;f7 1 0 0 0;f7 1 0 0 0;f7 1 0 0 0;", 0, 1, 0, 3, 2);
        hangDue("f0 1 0 0 1;f20 1 0 0 0;f1 1 0 0 0;f22 1 0 0 0;", 6, 2, 3, 0, 1);
        hangDue("f9 1 0 0 1;f0 1 0 0 0;f30 1 0 0 0;", 60, 1, 2, 0);
        hangDue("f1 1 0 0 1;f2 1 0 0 0;f3 1 0 0 0;f4 1 0 0 0;f5 1 0 0 0;f6 1 0 0 0;", 6, 1, 0, 3, 2, 5, 4);
        ScytheKeepers x = Check.told("f0 1 0 0 1;f20 1 0 0 0;f1 1 0 0 0;f22 1 0 0 0;");
        x.hang(-1);
        check.due("nothing is hung by it", x.farmer(0, 4), 1);
        ScytheKeepers none = new ScytheKeepers();
        check.due("no FARMERS: hang(-1)", none.hang(-1), ScytheKeepers.NONE);
        check.due("no FARMERS: hang(0)", none.hang(0), ScytheKeepers.BAD);
    }

    private static void oddsDue(ScytheKeepers x, int f, int tenths, int n, int upper, int lower) {
        String call = "odds(" + f + ", " + tenths + ", " + n + ", ";
        check.due(call + "0)", x.odds(f, tenths, n, 0), upper);
        check.due(call + "1)", x.odds(f, tenths, n, 1), lower);
    }

    private static void oddsOfFields() {
        ScytheKeepers x = Check.told("f0 1 0 6 1;f0 9 20 6 0;f0 8 20 6 0;");
        oddsDue(x, 0, 0, 8, 0, 1);
        oddsDue(x, 0, 10, 0, 0, 1);
        oddsDue(x, 0, 10, 1, 1, 1);
        oddsDue(x, 0, 3, 1, 3, 10);
        oddsDue(x, 0, 5, 2, 3, 4);
        oddsDue(x, 1, 10, 8, 0, 1);
        oddsDue(x, 2, 10, 8, 1, 1);
        oddsDue(x, 2, 9, 8, 43046721, 100000000);
        oddsDue(x, 2, 1, 8, 1, 100000000);
        oddsDue(x, 2, 9, 7, 0, 1);
        x.day(1);
        oddsDue(x, 0, 0, 0, 1, 1);
        oddsDue(x, 0, 7, 8, 1, 1);
        check.due("odds(3, ..)", x.odds(3, 0, 0, 0), ScytheKeepers.BAD);
        check.due("odds(-1, ..)", x.odds(-1, 0, 0, 0), ScytheKeepers.BAD);
        check.due("x = 11", x.odds(0, 11, 0, 0), ScytheKeepers.BAD);
        check.due("x = -1", x.odds(0, -1, 0, 0), ScytheKeepers.BAD);
        check.due("n = 9", x.odds(0, 0, 9, 0), ScytheKeepers.BAD);
        check.due("n = -1", x.odds(0, 0, -1, 0), ScytheKeepers.BAD);
        check.due("what = 2", x.odds(0, 0, 0, 2), ScytheKeepers.BAD);
        check.due("what = -1", x.odds(0, 0, 0, -1), ScytheKeepers.BAD);
    }

    private static void rings() {
        ScytheKeepers x = Check.told("f0 1 0 0 1;f0 1 0 0 2;f0 1 0 0 3;f0 1 0 0 4;f0 1 0 0 5;f0 1 0 0 0;");
        for (int f = 0; f < 6; f++) {
            check.due("RING of six, " + f, x.farmer(f, 7), 6);
        }
        x.hangs(3, 1);
        int[] three = {0, 3, 3, 3, 0, 0};
        for (int f = 0; f < 6; f++) {
            check.due("RING of three, " + f, x.farmer(f, 7), three[f]);
        }
        x.hangs(5, 4);
        int[] two = {0, 3, 3, 3, 2, 2};
        for (int f = 0; f < 6; f++) {
            check.due("RINGS of three and of two, " + f, x.farmer(f, 7), two[f]);
        }
    }

    private static void daysToCome() {
        ScytheKeepers x = Check.told("f0 1 0 6 1;f0 9 2 6 0;f0 4 20 6 1;");
        check.due("DONE of 0", x.farmer(0, 9), 1);
        // from DAY 2 on, 0 helps: 7 more take four DAYS, then one is left
        check.due("DONE of 1", x.farmer(1, 9), 7);
        check.due("ASKS of 2", x.farmer(2, 8), 21);
        check.due("DONE of 2", x.farmer(2, 9), 22);
        check.due("ALL", x.now(3), 22);
        check.due("nothing changed", x.now(2), 14);
    }
}
