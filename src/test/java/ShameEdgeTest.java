/** Promises 14 to 17: each sentence about how much shame one has that names an edge, a test of its own. */
public final class ShameEdgeTest {
    private static final Check check = new Check();
    private static final int BAD = ScytheKeepers.BAD;
    private static final int FULL = ScytheKeepers.FULL;
    private static final int NONE = ScytheKeepers.NONE;

    public static void main(String[] args) {
        seenSixAtMost();
        badAheadOfFull();
        dayFrom0To20();
        othersFrom0To6();
        hadOrHadNot();
        shameIsDayOrLess();
        nerveIsOthersOrLess();
        allThatWasSeen();
        forgetOfNothingAndOfSix();
        onesAll();
        onesOneOnly();
        onesNone();
        onesLeastAndGreatest();
        onesWhatBeyond();
        lookDayBeyond();
        lookGreaterPartSmallest();
        lookOnEachDay();
        lookLowestOfSeveral();
        lookLatestDay();
        lookOneTwoAtMost();
        noFarmersAreNeeded();
        check.finish();
    }

    private static ScytheKeepers seen(int... rows) {
        ScytheKeepers x = Check.told("f1 9 3 4 1;f5 6 7 2 0;");
        for (int i = 0; i + 2 < rows.length; i += 3) {
            x.sees(rows[i], rows[i + 1], rows[i + 2]);
        }
        return x;
    }

    private static ScytheKeepers one() {
        return seen(4, 2, 0);
    }

    private static ScytheKeepers full() {
        return seen(20, 6, 1, 19, 6, 1, 18, 6, 1, 4, 2, 0, 3, 2, 0, 15, 6, 1);
    }

    private static void seenSixAtMost() {
        check.of("SEEN (6 at most)");
        ScytheKeepers x = new ScytheKeepers();
        for (int i = 1; i <= 6; i++) {
            check.due("sees() of " + i, x.sees(20, 6, 1), i);
        }
        check.due("sees() of 7", x.sees(20, 6, 1), FULL);
        check.due("count(1)", x.count(1), 6);
        check.refused("sees() of 7", ShameEdgeTest::full, y -> y.sees(0, 0, 1), FULL);
        x.forget();
        check.due("sees() behind forget()", x.sees(0, 0, 0), 1);
    }

    private static void badAheadOfFull() {
        check.of("Refused, and nothing changes, the first of these: BAD (a number is not as told, or there is no such "
                + "thing), STATE (as told), FULL.");
        check.refused("sees(21, 0, 0) when full", ShameEdgeTest::full, x -> x.sees(21, 0, 0), BAD);
        check.refused("sees(0, 7, 0) when full", ShameEdgeTest::full, x -> x.sees(0, 7, 0), BAD);
        check.refused("sees(0, 0, 2) when full", ShameEdgeTest::full, x -> x.sees(0, 0, 2), BAD);
    }

    private static void dayFrom0To20() {
        check.of("ASKED by the morning of a DAY d (0 .. 20)");
        check.due("sees(0, 0, 1)", new ScytheKeepers().sees(0, 0, 1), 1);
        check.due("sees(20, 0, 1)", new ScytheKeepers().sees(20, 0, 1), 1);
        check.refused("sees(21, 0, 1)", ShameEdgeTest::one, x -> x.sees(21, 0, 1), BAD);
        for (int d : Check.FAR_OFF) {
            check.refused("sees(" + d + ", 0, 1)", ShameEdgeTest::one, x -> x.sees(d, 0, 1), BAD);
        }
    }

    private static void othersFrom0To6() {
        check.of("m (0 .. 6) others having theirs");
        check.due("sees(0, 0, 1)", new ScytheKeepers().sees(0, 0, 1), 1);
        check.due("sees(0, 6, 1)", new ScytheKeepers().sees(0, 6, 1), 1);
        check.refused("sees(0, 7, 1)", ShameEdgeTest::one, x -> x.sees(0, 7, 1), BAD);
        for (int m : Check.FAR_OFF) {
            check.refused("sees(0, " + m + ", 1)", ShameEdgeTest::one, x -> x.sees(0, m, 1), BAD);
        }
    }

    private static void hadOrHadNot() {
        check.of("a stranger had (1), or had not (0) ASKED");
        check.due("had: SHAME 0 or NERVE 0", seen(0, 0, 1).ones(0), 27);
        check.due("had not: all others", seen(0, 0, 0).ones(0), 120);
        check.refused("sees(0, 0, 2)", ShameEdgeTest::one, x -> x.sees(0, 0, 2), BAD);
        for (int had : Check.FAR_OFF) {
            check.refused("sees(0, 0, " + had + ")", ShameEdgeTest::one, x -> x.sees(0, 0, had), BAD);
        }
    }

    private static void shameIsDayOrLess() {
        check.of("he had, if SHAME is d or less, or NERVE m or less.");
        for (int d = 0; d <= 20; d++) {
            ScytheKeepers x = seen(d, 0, 0);
            check.due("had not by DAY " + d, x.ones(0), 6 * (20 - d));
            check.due("least SHAME", x.ones(1), d == 20 ? NONE : d + 1);
        }
    }

    private static void nerveIsOthersOrLess() {
        check.of("he had, if SHAME is d or less, or NERVE m or less.");
        for (int m = 0; m <= 6; m++) {
            check.due("had not by " + m, seen(0, m, 0).ones(0), 20 * (6 - m));
            check.due("had by " + m, seen(0, m, 1).ones(0), 147 - 20 * (6 - m));
        }
        check.due("by NERVE alone the greatest SHAME stays", seen(0, 0, 1).ones(2), 20);
        check.due("had by DAY 20, whatever NERVE is", seen(20, 0, 1).ones(0), 147);
        check.due("had by six others, whatever SHAME is", seen(0, 6, 1).ones(0), 147);
    }

    private static void allThatWasSeen() {
        check.of("twos of SHAME (0 .. 20) and NERVE (0 .. 6) by which all that was SEEN is so");
        check.due("one", seen(4, 2, 0).ones(0), 64);
        check.due("two", seen(4, 2, 0, 5, 2, 1).ones(0), 4);
        check.due("the other one first", seen(5, 2, 1, 4, 2, 0).ones(0), 4);
        check.due("the same once more", seen(4, 2, 0, 4, 2, 0).ones(0), 64);
        check.due("six", full().ones(0), 64);
    }

    private static void forgetOfNothingAndOfSix() {
        check.of("Nothing is SEEN: how much was.");
        ScytheKeepers x = full();
        check.due("forget() of six", x.forget(), 6);
        check.due("count(1)", x.count(1), 0);
        check.due("ones(0)", x.ones(0), 147);
        check.due("forget() of none", x.forget(), 0);
        ScytheKeepers none = seen(20, 6, 0);
        check.due("no two is left", none.ones(0), 0);
        none.forget();
        check.due("all are again", none.ones(0), 147);
    }

    private static void onesAll() {
        check.of("ONES: how many (what = 0), the least SHAME (1), the greatest (2)");
        ScytheKeepers x = new ScytheKeepers();
        check.due("ones(0)", x.ones(0), 147);
        check.due("ones(1)", x.ones(1), 0);
        check.due("ones(2)", x.ones(2), 20);
    }

    private static void onesOneOnly() {
        check.of("ONES: how many (what = 0), the least SHAME (1), the greatest (2)");
        ScytheKeepers high = seen(19, 5, 0);
        check.due("SHAME 20, NERVE 6", high.ones(0), 1);
        check.due("ones(1)", high.ones(1), 20);
        check.due("ones(2)", high.ones(2), 20);
        ScytheKeepers low = seen(0, 5, 0, 1, 5, 1);
        check.due("SHAME 1, NERVE 6", low.ones(0), 1);
        check.due("ones(1)", low.ones(1), 1);
        check.due("ones(2)", low.ones(2), 1);
    }

    private static void onesNone() {
        check.of("the least SHAME (1), the greatest (2); NONE.");
        int[][] rows = {{20, 0, 0}, {0, 6, 0}, {5, 3, 1, 5, 3, 0}, {5, 3, 1, 6, 3, 0}};
        for (int[] row : rows) {
            ScytheKeepers x = seen(row);
            check.due("ones(0)", x.ones(0), 0);
            check.due("ones(1)", x.ones(1), NONE);
            check.due("ones(2)", x.ones(2), NONE);
        }
    }

    private static void onesLeastAndGreatest() {
        check.of("the least, the greatest SHAME of them");
        for (int shame = 1; shame <= 20; shame++) {
            ScytheKeepers x = seen(shame - 1, 3, 0, shame, 3, 1);
            check.due("least", x.ones(1), shame);
            check.due("greatest", x.ones(2), shame);
        }
        ScytheKeepers x = seen(4, 2, 0, 17, 2, 1);
        check.due("least", x.ones(1), 5);
        check.due("greatest", x.ones(2), 17);
    }

    private static void onesWhatBeyond() {
        check.of("the greatest (2); NONE. BAD.");
        check.refused("ones(3)", ShameEdgeTest::one, x -> x.ones(3), BAD);
        for (int what : Check.FAR_OFF) {
            check.refused("ones(" + what + ")", ShameEdgeTest::one, x -> x.ones(what), BAD);
        }
        check.due("ones(3), no two being left", seen(20, 6, 0).ones(3), BAD);
    }

    private static void lookDayBeyond() {
        check.of("LOOK; NONE. BAD.");
        check.refused("look(21)", ShameEdgeTest::one, x -> x.look(21), BAD);
        for (int d : Check.FAR_OFF) {
            check.refused("look(" + d + ")", ShameEdgeTest::one, x -> x.look(d), BAD);
        }
        check.due("look(21), no two being left", seen(20, 6, 0).look(21), BAD);
        check.due("look(-1), no two being left", seen(20, 6, 0).look(-1), BAD);
    }

    private static void lookGreaterPartSmallest() {
        check.of("the m (0 .. 6) by which, had or not, the greater part of these is smallest");
        ScytheKeepers x = new ScytheKeepers();
        // of 147, 67 had by m = 2, and 80 not; by m = 3 it is 87 and 60
        check.due("look(0)", x.look(0), 2);
        check.due("look(0) of NERVE 4 .. 6", seen(1, 3, 0).look(0), 4);
        check.due("look(0) of NERVE 5 and 6", seen(1, 4, 0).look(0), 5);
        check.due("look(4) of SHAME 5 .. 20, NERVE 3 .. 6: halves", one().look(4), 4);
    }

    private static void lookOnEachDay() {
        check.of("the m (0 .. 6) by which, had or not, the greater part of these is smallest");
        int[][] want = {
            {2, 2, 2, 2, 1, 1, 1, 0, 0, 0, 0, 0, 0, 0, 0, 0, 0, 0, 0, 0, 0},
            {4, 4, 4, 4, 4, 4, 4, 4, 3, 3, 3, 0, 0, 0, 0, 0, 0, 0, 0, 0, 0},
            {2, 2, 1, 1, 1, 1, 0, 0, 0, 0, 0, 0, 0, 0, 0, 0, 0, 0, 0, 0, 0},
            {3, 3, 3, 3, 3, 3, 3, 2, 2, 2, 1, 1, 0, 0, 0, 0, 0, 0, 0, 0, 0},
        };
        int[][] rows = {{}, {4, 2, 0}, {2, 5, 1}, {6, 0, 0, 15, 4, 1}};
        for (int i = 0; i < rows.length; i++) {
            ScytheKeepers x = seen(rows[i]);
            for (int d = 0; d <= 20; d++) {
                check.due("look(" + d + ") of row " + i, x.look(d), want[i][d]);
            }
        }
    }

    private static void lookLowestOfSeveral() {
        check.of("of several the lowest; NONE");
        check.due("look(12): by SHAME alone", one().look(12), 0);
        check.due("look(0) of NERVE 4 .. 6: 4 as 5", seen(1, 3, 0).look(0), 4);
        check.due("look(0) of NERVE 6: none is better than another", seen(0, 5, 0).look(0), 0);
    }

    private static void lookLatestDay() {
        check.of("LOOK for a DAY d (0 .. 20)");
        check.due("look(20): he had in any case", new ScytheKeepers().look(20), 0);
        check.due("look(20) of one SEEN", one().look(20), 0);
        check.due("look(19)", new ScytheKeepers().look(19), 0);
        check.due("look(0)", new ScytheKeepers().look(0), 2);
    }

    private static void lookOneTwoAtMost() {
        check.of("NONE (one two at most)");
        ScytheKeepers two = seen(4, 2, 0, 5, 2, 1, 4, 4, 1);
        check.due("two are left", two.ones(0), 2);
        check.due("look(4)", two.look(4), 3);
        ScytheKeepers single = seen(19, 5, 0);
        ScytheKeepers none = seen(20, 6, 0);
        for (int d = 0; d <= 20; d++) {
            check.due("look(" + d + "), one being left", single.look(d), NONE);
            check.due("look(" + d + "), none being left", none.look(d), NONE);
        }
    }

    private static void noFarmersAreNeeded() {
        check.of("SEEN: how much there is. BAD; FULL.");
        ScytheKeepers x = new ScytheKeepers();
        check.due("sees(4, 2, 0)", x.sees(4, 2, 0), 1);
        check.due("ones(0)", x.ones(0), 64);
        check.due("look(4)", x.look(4), 4);
        x.day(1);
        check.due("DAYS are nothing to it", x.ones(0), 64);
    }
}
