/** Promises 11 to 13: each sentence about what is best that names an edge, a test of its own. */
public final class BestEdgeTest {
    private static final Check check = new Check();
    private static final int BAD = ScytheKeepers.BAD;

    public static void main(String[] args) {
        startDaysBeyond();
        startBehindNoDays();
        startBehind20Days();
        startCountsFromNow();
        startOfWhoHaveAsked();
        startFewest();
        startLeastOfSeveral();
        startOfNoFarmers();
        hangEachHasOne();
        hangNoOneHisOwn();
        hangFirstOfSeveral();
        hangLeastAndMost();
        hangOfSix();
        hangByFarmsAlone();
        hangOfNoFarmers();
        hangWhoThereIsNot();
        oddsTenthsBeyond();
        oddsDaysBeyond();
        oddsWhatBeyond();
        oddsWhoThereIsNot();
        oddsNever();
        oddsAlways();
        oddsOfWhatIsLeft();
        oddsInLeastTerms();
        oddsWhetherHeHasAsked();
        check.finish();
    }

    private static void startDaysBeyond() {
        check.of("START for n (0 .. 20):");
        check.refused("start(21)", Check::busy, x -> x.start(21), BAD);
        for (int n : Check.FAR_OFF) {
            check.refused("start(" + n + ")", Check::busy, x -> x.start(n), BAD);
        }
        check.due("start(21) of none", new ScytheKeepers().start(21), BAD);
    }

    private static void startBehindNoDays() {
        check.of("to be BROUGHT NOW so that all have ASKED behind n DAYS");
        ScytheKeepers x = Check.told("f0 1 0 0 1;f0 1 0 0 0;f0 1 0 0 0;f0 1 0 0 0;f0 1 0 0 0;f0 1 0 0 0;");
        check.due("start(0): no DAY on which they would ASK", x.start(0), 63);
        check.due("start(1)", x.start(1), 0);
        x.brings(3);
        check.due("start(0), but for him who has", x.start(0), 55);
    }

    private static void startBehind20Days() {
        check.of("START for n (0 .. 20):");
        // behind 20 DAYS, DAY 19 was the latest
        check.due("start(20) of SHAME 19", Check.told("f0 1 19 6 1;f0 1 19 6 0;").start(20), 0);
        check.due("start(20) of SHAME 20", Check.told("f0 1 20 6 1;f0 1 19 6 0;").start(20), 1);
        check.due("start(19) of SHAME 19", Check.told("f0 1 19 6 1;f0 1 18 6 0;").start(19), 1);
        check.due("start(20) of NERVE 6", Check.told("f0 1 20 6 1;f0 1 20 6 0;").start(20), 3);
    }

    private static void startCountsFromNow() {
        check.of("(As things are NOW; nothing is changed; days to come are dry.)");
        ScytheKeepers x = Check.told("f0 1 20 6 1;f0 1 20 6 0;");
        x.day(0);
        check.due("start(20) on DAY 1", x.start(20), 0);
        Check.days(x, 0, 19);
        check.due("start(0) on DAY 20", x.start(0), 3);
        check.due("start(1) on DAY 20", x.start(1), 0);
    }

    private static void startOfWhoHaveAsked() {
        check.of("the fewest who have not ASKED");
        ScytheKeepers x = Check.told("f0 1 20 1 1;f0 1 20 6 0;f0 1 20 6 0;");
        x.brings(0);
        check.due("start(0)", x.start(0), 6);
        check.due("start(9)", x.start(9), 6);
        x.brings(2);
        check.due("start(9)", x.start(9), 2);
        x.brings(1);
        check.due("start(0), all having ASKED", x.start(0), 0);
        check.due("start(20), all having ASKED", x.start(20), 0);
    }

    private static void startFewest() {
        check.of("the fewest who have not ASKED (bits,");
        // 5 alone (bits 32) is fewer than 0 and 1 (bits 3)
        ScytheKeepers x = Check.told("f0 1 20 1 1;f0 1 20 2 0;f0 1 20 3 0;f0 1 20 4 0;f0 1 20 5 0;f0 1 20 6 0;");
        check.due("start(5)", x.start(5), 32);
        check.due("start(20)", x.start(20), 32);
        check.due("start(4): two at once", x.start(4), 33);
        check.due("start(1): three, of NERVE 4 and more", x.start(1), 56);
        check.due("start(0)", x.start(0), 63);
    }

    private static void startLeastOfSeveral() {
        check.of("(bits, of several sets the least)");
        ScytheKeepers one = Check.told("f0 1 20 1 1;f0 1 20 1 0;f0 1 20 1 0;f0 1 20 1 0;f0 1 20 1 0;f0 1 20 1 0;");
        check.due("start(1): any one", one.start(1), 1);
        ScytheKeepers two = Check.told("f0 1 20 2 1;f0 1 20 2 0;f0 1 20 2 0;f0 1 20 2 0;f0 1 20 2 0;f0 1 20 2 0;");
        check.due("start(1): any two", two.start(1), 3);
        two.brings(0);
        check.due("start(1): one more", two.start(1), 2);
        ScytheKeepers five = Check.told("f0 1 20 5 1;f0 1 20 5 0;f0 1 20 5 0;f0 1 20 5 0;f0 1 20 5 0;f0 1 20 5 0;");
        check.due("start(1): any five", five.start(1), 31);
    }

    private static void startOfNoFarmers() {
        check.of("START, as bits. BAD.");
        check.due("start(0) of none", new ScytheKeepers().start(0), 0);
        check.due("start(20) of none", new ScytheKeepers().start(20), 0);
    }

    private static void hangDue(String text, int far, int... keepers) {
        ScytheKeepers x = Check.told(text);
        check.due("hang(-1) of " + text, x.hang(-1), far);
        for (int f = 0; f < keepers.length; f++) {
            check.due("hang(" + f + ") of " + text, x.hang(f), keepers[f]);
        }
    }

    private static void hangEachHasOne() {
        check.of("of all ways in which each has one scythe of another one's");
        // all would be nearest to 0, who may have but one
        hangDue("f15 1 0 0 1;f10 1 0 0 0;f20 1 0 0 0;", 20, 1, 2, 0);
        hangDue("f15 1 0 0 1;f0 1 0 0 0;f30 1 0 0 0;f15 1 0 0 0;", 60, 1, 0, 3, 2);
    }

    private static void hangNoOneHisOwn() {
        check.of("(no one his own)");
        hangDue("f0 1 0 0 1;f30 1 0 0 0;", 60, 1, 0);
        hangDue("f0 1 0 0 1;f0 1 0 0 0;f30 1 0 0 0;", 60, 1, 2, 0);
    }

    private static void hangFirstOfSeveral() {
        check.of("of several the first (by whose KEEPER FARMER 0 has, the lowest, then the next ..)");
        hangDue("f7 1 0 0 1;f7 1 0 0 0;", 0, 1, 0);
        hangDue("f7 1 0 0 1;f7 1 0 0 0;f7 1 0 0 0;", 0, 1, 2, 0);
        hangDue("f7 1 0 0 1;f7 1 0 0 0;f7 1 0 0 0;f7 1 0 0 0;", 0, 1, 0, 3, 2);
        hangDue("f7 1 0 0 1;f7 1 0 0 0;f7 1 0 0 0;f7 1 0 0 0;f7 1 0 0 0;", 0, 1, 0, 3, 4, 2);
        hangDue("f7 1 0 0 1;f7 1 0 0 0;f7 1 0 0 0;f7 1 0 0 0;f7 1 0 0 0;f7 1 0 0 0;", 0, 1, 0, 3, 2, 5, 4);
    }

    private static void hangLeastAndMost() {
        check.of("that by which farms are least far together (each FARM from its KEEPER's)");
        hangDue("f30 1 0 0 1;f30 1 0 0 0;", 0, 1, 0);
        // three at each end can go around among themselves; one alone must go over
        hangDue("f0 1 0 0 1;f30 1 0 0 0;f0 1 0 0 0;f30 1 0 0 0;f0 1 0 0 0;f30 1 0 0 0;", 0, 2, 3, 4, 5, 0, 1);
        hangDue("f0 1 0 0 1;f30 1 0 0 0;f30 1 0 0 0;f30 1 0 0 0;f30 1 0 0 0;f30 1 0 0 0;", 60, 1, 0, 3, 2, 5, 4);
    }

    private static void hangOfSix() {
        check.of("of several the first (by whose KEEPER FARMER 0 has, the lowest, then the next ..)");
        hangDue("f0 1 0 0 1;f10 1 0 0 0;f20 1 0 0 0;f21 1 0 0 0;f11 1 0 0 0;f1 1 0 0 0;", 6, 5, 4, 3, 2, 1, 0);
    }

    private static void hangByFarmsAlone() {
        check.of("(As things are NOW; nothing is changed; days to come are dry.)");
        ScytheKeepers x = Check.busy();
        int far = x.hang(-1);
        x.hangs(2, 1);
        check.due("hang(-1), whatever hangs where", x.hang(-1), far);
        check.due("KEEPER as HUNG", x.farmer(2, 4), 1);
    }

    private static void hangOfNoFarmers() {
        check.of("NONE (no FARMERS)");
        check.due("hang(-1) of a new object", new ScytheKeepers().hang(-1), ScytheKeepers.NONE);
        ScytheKeepers x = Check.busy();
        x.valley();
        check.due("hang(-1) behind a valley of none", x.hang(-1), ScytheKeepers.NONE);
    }

    private static void hangWhoThereIsNot() {
        check.of("HANG: how far (f = -1), the KEEPER of one; NONE. BAD.");
        check.refused("hang(3) of three", Check::busy, x -> x.hang(3), BAD);
        for (int f : Check.FAR_OFF) {
            if (f != -1) {
                check.refused("hang(" + f + ")", Check::busy, x -> x.hang(f), BAD);
            }
        }
        check.due("hang(-2) of none", new ScytheKeepers().hang(-2), BAD);
        check.due("hang(0) of none: there is no such one", new ScytheKeepers().hang(0), BAD);
    }

    private static void oddsTenthsBeyond() {
        check.of("ODDS by x (0 .. 10), n (0 .. 8) for one");
        check.refused("odds(0, 11, 0, 0)", Check::busy, x -> x.odds(0, 11, 0, 0), BAD);
        for (int tenths : Check.FAR_OFF) {
            check.refused("odds(0, " + tenths + ", 0, 0)", Check::busy, x -> x.odds(0, tenths, 0, 0), BAD);
        }
    }

    private static void oddsDaysBeyond() {
        check.of("ODDS by x (0 .. 10), n (0 .. 8) for one");
        check.refused("odds(0, 0, 9, 0)", Check::busy, x -> x.odds(0, 0, 9, 0), BAD);
        for (int n : Check.FAR_OFF) {
            check.refused("odds(0, 0, " + n + ", 0)", Check::busy, x -> x.odds(0, 0, n, 0), BAD);
        }
    }

    private static void oddsWhatBeyond() {
        check.of("ODDS: upper (what = 0), lower number (1), in least terms. BAD.");
        check.refused("odds(0, 0, 0, 2)", Check::busy, x -> x.odds(0, 0, 0, 2), BAD);
        for (int what : Check.FAR_OFF) {
            check.refused("odds(0, 0, 0, " + what + ")", Check::busy, x -> x.odds(0, 0, 0, what), BAD);
        }
    }

    private static void oddsWhoThereIsNot() {
        check.of("ODDS: upper (what = 0), lower number (1), in least terms. BAD.");
        check.refused("odds(3, 0, 0, 0) of three", Check::busy, x -> x.odds(3, 0, 0, 0), BAD);
        for (int f : Check.FAR_OFF) {
            check.refused("odds(" + f + ", 0, 0, 0)", Check::busy, x -> x.odds(f, 0, 0, 0), BAD);
        }
        check.refused("odds(0, 0, 0, 1) of none", ScytheKeepers::new, x -> x.odds(0, 0, 0, 1), BAD);
    }

    private static void oddsDue(ScytheKeepers x, int f, int tenths, int n, int upper, int lower) {
        String call = "odds(" + f + ", " + tenths + ", " + n + ", ";
        check.due(call + "0)", x.odds(f, tenths, n, 0), upper);
        check.due(call + "1)", x.odds(f, tenths, n, 1), lower);
    }

    private static void oddsNever() {
        check.of("each of n days is dry by x of 10, for itself");
        ScytheKeepers x = Check.told("f0 1 20 6 1;f0 9 20 6 0;");
        for (int n = 0; n <= 8; n++) {
            oddsDue(x, 0, 0, n, 0, 1);
            oddsDue(x, 1, 10, n, 0, 1);
            oddsDue(x, 1, 5, n, 0, 1);
        }
        for (int tenths = 0; tenths <= 10; tenths++) {
            oddsDue(x, 0, tenths, 0, 0, 1);
        }
    }

    private static void oddsAlways() {
        check.of("each of n days is dry by x of 10, for itself");
        ScytheKeepers x = Check.told("f0 1 0 6 1;f0 8 20 6 0;");
        oddsDue(x, 1, 10, 7, 0, 1);
        oddsDue(x, 1, 10, 8, 1, 1);
        for (int n = 1; n <= 8; n++) {
            oddsDue(x, 0, 10, n, 1, 1);
        }
        x.day(1);
        for (int n = 0; n <= 8; n++) {
            oddsDue(x, 0, 0, n, 1, 1);
            oddsDue(x, 0, 3, n, 1, 1);
        }
    }

    private static void oddsOfWhatIsLeft() {
        check.of("he mows 1 of what is left of his FIELD on each dry one: that nothing is left behind them: a fraction.");
        ScytheKeepers x = Check.told("f0 9 0 6 1;f0 9 20 6 0;");
        oddsDue(x, 0, 1, 8, 0, 1);
        x.day(1);
        oddsDue(x, 0, 1, 8, 1, 100000000);
        oddsDue(x, 0, 9, 8, 43046721, 100000000);
        oddsDue(x, 0, 9, 7, 0, 1);
        Check.days(x, 1, 7);
        // one is left: all days but wet ones will do
        oddsDue(x, 0, 1, 8, 56953279, 100000000);
        oddsDue(x, 0, 9, 8, 99999999, 100000000);
        oddsDue(x, 0, 7, 1, 7, 10);
    }

    private static void oddsInLeastTerms() {
        check.of("lower number (1), in least terms.");
        ScytheKeepers x = Check.told("f0 1 20 6 1;f0 2 20 6 0;f0 8 20 6 0;");
        int[] upper = {0, 1, 1, 3, 2, 1, 3, 7, 4, 9, 1};
        int[] lower = {1, 10, 5, 10, 5, 2, 5, 10, 5, 10, 1};
        for (int tenths = 0; tenths <= 10; tenths++) {
            oddsDue(x, 0, tenths, 1, upper[tenths], lower[tenths]);
        }
        oddsDue(x, 2, 5, 8, 1, 256);
        oddsDue(x, 2, 2, 8, 1, 390625);
        oddsDue(x, 2, 4, 8, 256, 390625);
        oddsDue(x, 1, 5, 3, 1, 2);
        oddsDue(x, 1, 5, 2, 1, 4);
    }

    private static void oddsWhetherHeHasAsked() {
        check.of("ODDS by x (0 .. 10), n (0 .. 8) for one");
        ScytheKeepers x = Check.told("f0 2 20 6 1;f0 2 20 6 0;");
        oddsDue(x, 0, 3, 2, 9, 100);
        x.brings(0);
        oddsDue(x, 0, 3, 2, 9, 100);
    }
}
