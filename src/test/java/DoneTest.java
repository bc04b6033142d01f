/** Promises 7 to 10: a DAY, one BROUGHT, a scythe HUNG, all of it UNDONE. */
public final class DoneTest {
    private static final Check check = new Check();

    public static void main(String[] args) {
        askingByShame();
        askingByNerve();
        mowing();
        helping();
        sixFarmers();
        dayRefused();
        bringing();
        hanging();
        undoing();
        undoingTen();
        check.finish();
    }

    private static void askingByShame() {
        ScytheKeepers x = Check.told("f0 9 0 6 1;f0 9 2 6 0;");
        check.due("wet DAY", x.day(0), 0);
        check.due("SHAME 0 asks on DAY 0", x.now(1), 1);
        x.day(0);
        check.due("SHAME 2 not on DAY 1", x.now(1), 1);
        x.day(0);
        check.due("SHAME 2 on DAY 2", x.now(1), 3);
        check.due("nothing is mown when wet", x.now(2), 18);
    }

    private static void askingByNerve() {
        ScytheKeepers x = Check.told("f0 9 20 0 1;f0 9 20 1 0;f0 9 20 2 0;");
        x.day(0);
        check.due("NERVE 0 asks at once", x.now(1), 1);
        x.day(0);
        check.due("NERVE 1 by who had ahead of the DAY", x.now(1), 3);
        x.day(0);
        check.due("NERVE 2", x.now(1), 7);
    }

    private static void mowing() {
        ScytheKeepers x = Check.told("f0 2 0 6 1;f0 3 1 6 0;");
        check.due("first DAY", x.day(1), 1);
        check.due("left of 0", x.farmer(0, 1), 1);
        check.due("left of 1", x.farmer(1, 1), 3);
        check.due("second DAY", x.day(1), 2);
        check.due("left of 0, who was done only now", x.farmer(0, 1), 0);
        check.due("left of 1", x.farmer(1, 1), 2);
        check.due("third DAY, both on one FIELD", x.day(1), 2);
        check.due("left of 1", x.farmer(1, 1), 0);
        check.due("nothing is left", x.day(1), 0);
        check.due("DAY", x.now(0), 4);
    }

    private static void helping() {
        // 3 keeps the scythes of all: he mows for the lowest who has ASKED and has something left
        ScytheKeepers x = Check.told("f0 9 20 6 3;f0 2 1 6 3;f0 9 0 6 3;f0 1 0 6 0;");
        check.due("DAY 0: 2 and 3 for themselves", x.day(1), 2);
        check.due("DAY 1: 3 helps 1, not 0, who has not ASKED", x.day(1), 3);
        check.due("left of 0", x.farmer(0, 1), 9);
        check.due("left of 1", x.farmer(1, 1), 0);
        check.due("left of 2", x.farmer(2, 1), 7);
        check.due("DAY 2: 3 helps 2, 1 has nobody's", x.day(1), 2);
        check.due("left of 2", x.farmer(2, 1), 5);
        // 0 and 1 are done; each helps by what hangs with him, one behind the other
        ScytheKeepers y = Check.told("f0 1 0 6 1;f0 1 0 6 2;f0 2 0 6 0;f0 3 0 6 1;");
        check.due("all for themselves", y.day(1), 4);
        check.due("0 takes the last of 2 behind himself, 1 helps 3", y.day(1), 3);
        check.due("left of 2", y.farmer(2, 1), 0);
        check.due("left of 3", y.farmer(3, 1), 0);
    }

    private static void sixFarmers() {
        ScytheKeepers x = Check.told("f0 1 0 0 1;f0 1 0 0 0;f0 1 0 0 0;f0 1 0 0 0;f0 1 0 0 0;f0 3 0 0 4;");
        check.due("each for himself", x.day(1), 6);
        check.due("4 helps 5, the others have nobody to help", x.day(1), 2);
        check.due("all is mown", x.day(1), 0);
        check.due("who has ASKED", x.now(1), 63);
        // rows that six farmers filled are nothing to two
        Check.read(x, "f0 1 0 6 1;f0 2 20 6 0;");
        check.due("one of two", x.day(1), 1);
        check.due("he has nobody to help yet", x.day(1), 0);
        check.due("left", x.now(2), 2);
        check.due("ALL: on DAY 20 both mow the same FIELD", x.now(3), 19);
    }

    private static void dayRefused() {
        ScytheKeepers x = Check.told("f0 2 0 6 1;f0 3 1 6 0;");
        check.due("day(2)", x.day(2), ScytheKeepers.BAD);
        check.due("day(-1)", x.day(-1), ScytheKeepers.BAD);
        check.due("DAY as before", x.now(0), 0);
        check.due("UNDONE as before", x.now(4), 0);
    }

    private static void bringing() {
        ScytheKeepers x = Check.told("f0 2 20 6 1;f0 3 20 6 0;");
        check.due("brings(1)", x.brings(1), 1);
        check.due("who has ASKED", x.now(1), 2);
        check.due("brings(1) again", x.brings(1), ScytheKeepers.STATE);
        check.due("brings(0)", x.brings(0), 2);
        check.due("brings(2)", x.brings(2), ScytheKeepers.BAD);
        check.due("brings(-1)", x.brings(-1), ScytheKeepers.BAD);
        check.due("UNDONE", x.now(4), 2);
        check.due("both mow", x.day(1), 2);
        check.due("nobody is there", new ScytheKeepers().brings(0), ScytheKeepers.BAD);
    }

    private static void hanging() {
        ScytheKeepers x = Check.told("f0 2 20 6 1;f0 3 20 6 0;f0 3 20 6 0;");
        check.due("hangs(0, 2)", x.hangs(0, 2), 1);
        check.due("KEEPER", x.farmer(0, 4), 2);
        check.due("with 1", x.farmer(1, 6), 0);
        check.due("with 2", x.farmer(2, 6), 1);
        check.due("hangs(0, 1)", x.hangs(0, 1), 2);
        check.due("it hangs there", x.hangs(0, 1), ScytheKeepers.STATE);
        check.due("with himself", x.hangs(0, 0), ScytheKeepers.BAD);
        check.due("hangs(3, 0)", x.hangs(3, 0), ScytheKeepers.BAD);
        check.due("hangs(-1, 0)", x.hangs(-1, 0), ScytheKeepers.BAD);
        check.due("hangs(0, 3)", x.hangs(0, 3), ScytheKeepers.BAD);
        check.due("hangs(0, -1)", x.hangs(0, -1), ScytheKeepers.BAD);
        check.due("UNDONE", x.now(4), 2);
        x.brings(0);
        check.due("he has ASKED", x.hangs(0, 2), ScytheKeepers.STATE);
        check.due("he has ASKED, BAD first", x.hangs(0, 3), ScytheKeepers.BAD);
        check.due("he has ASKED, with himself", x.hangs(0, 0), ScytheKeepers.BAD);
        check.due("another's may hang with one who has", x.hangs(1, 2), 0);
        check.due("KEEPER as before", x.farmer(0, 4), 1);
    }

    private static void undoing() {
        ScytheKeepers x = Check.told("f0 2 0 6 1;f0 3 20 6 0;f0 3 20 6 0;");
        x.hangs(1, 2);
        x.brings(2);
        x.day(1);
        x.day(5);
        check.due("UNDONE", x.now(4), 3);
        check.due("mown", x.now(2), 6);
        check.due("undo() of the DAY", x.undo(), 2);
        check.due("DAY", x.now(0), 0);
        check.due("ASKED", x.now(1), 4);
        check.due("FIELDS", x.now(2), 8);
        check.due("undo() of brings()", x.undo(), 1);
        check.due("ASKED", x.now(1), 0);
        check.due("KEEPER, not undone yet", x.farmer(1, 4), 2);
        check.due("undo() of hangs()", x.undo(), 0);
        check.due("KEEPER", x.farmer(1, 4), 0);
        check.due("nothing is left to be", x.undo(), ScytheKeepers.STATE);
        x.sees(1, 1, 1);
        x.rate(0, 0);
        x.day(1);
        x.undo();
        check.due("SEEN is not UNDONE", x.count(1), 1);
        check.due("THE TRACE is not UNDONE", x.trace(), 1);
    }

    private static void undoingTen() {
        ScytheKeepers x = Check.told("f0 9 0 6 1;f0 9 0 6 0;");
        Check.days(x, 1, 7);
        for (int i = 0; i < 5; i++) {
            x.undo();
        }
        Check.days(x, 0, 11);
        check.due("DAY", x.now(0), 13);
        check.due("ten are known", x.now(4), 10);
        for (int left = 9; left >= 0; left--) {
            check.due("undo() to " + left, x.undo(), left);
            check.due("DAY at " + left, x.now(0), 3 + left);
        }
        check.due("older ones are lost", x.undo(), ScytheKeepers.STATE);
        check.due("FIELDS", x.now(2), 14);
        check.due("DAY", x.now(0), 3);
    }
}
