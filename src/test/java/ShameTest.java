/** Promises 14 to 17: what is SEEN of a stranger, ONES, LOOK. */
public final class ShameTest {
    private static final Check check = new Check();

    public static void main(String[] args) {
        seeing();
        forgetting();
        onesLeft();
        onesAtTheEdges();
        looking();
        check.finish();
    }

    private static void seeing() {
        ScytheKeepers x = new ScytheKeepers();
        check.due("d = 21", x.sees(21, 0, 0), ScytheKeepers.BAD);
        check.due("d = -1", x.sees(-1, 0, 0), ScytheKeepers.BAD);
        check.due("m = 7", x.sees(0, 7, 0), ScytheKeepers.BAD);
        check.due("m = -1", x.sees(0, -1, 0), ScytheKeepers.BAD);
        check.due("had = 2", x.sees(0, 0, 2), ScytheKeepers.BAD);
        check.due("had = -1", x.sees(0, 0, -1), ScytheKeepers.BAD);
        check.due("nothing changed", x.count(1), 0);
        for (int i = 1; i <= 6; i++) {
            check.due("sees() of " + i, x.sees(20, 6, 1), i);
        }
        check.due("sees() of 7", x.sees(0, 0, 1), ScytheKeepers.FULL);
        check.due("BAD first", x.sees(0, 0, 2), ScytheKeepers.BAD);
        check.due("SEEN", x.count(1), 6);
        check.due("what was refused tells nothing", x.ones(0), 147);
    }

    private static void forgetting() {
        ScytheKeepers x = new ScytheKeepers();
        x.sees(0, 0, 0);
        x.sees(20, 6, 0);
        check.due("forget()", x.forget(), 2);
        check.due("forget() again", x.forget(), 0);
        check.due("ONES", x.ones(0), 147);
        check.due("sees() anew", x.sees(0, 0, 1), 1);
    }

    private static void onesLeft() {
        ScytheKeepers x = new ScytheKeepers();
        check.due("all: how many", x.ones(0), 147);
        check.due("all: least", x.ones(1), 0);
        check.due("all: greatest", x.ones(2), 20);
        check.due("ones(3)", x.ones(3), ScytheKeepers.BAD);
        check.due("ones(-1)", x.ones(-1), ScytheKeepers.BAD);
        x.sees(4, 2, 0);
        check.due("had not: SHAME 5 .. 20, NERVE 3 .. 6", x.ones(0), 64);
        check.due("least", x.ones(1), 5);
        x.sees(5, 2, 1);
        check.due("had, a DAY later: SHAME 5", x.ones(0), 4);
        check.due("least", x.ones(1), 5);
        check.due("greatest", x.ones(2), 5);
        x.sees(4, 3, 1);
        check.due("NERVE 3", x.ones(0), 1);
        check.due("one is left: least", x.ones(1), 5);
        check.due("one is left: greatest", x.ones(2), 5);
        x.sees(4, 3, 0);
        check.due("none: how many", x.ones(0), 0);
        check.due("none: least", x.ones(1), ScytheKeepers.NONE);
        check.due("none: greatest", x.ones(2), ScytheKeepers.NONE);
    }

    private static void onesAtTheEdges() {
        ScytheKeepers x = new ScytheKeepers();
        x.sees(19, 5, 0);
        check.due("SHAME 20, NERVE 6", x.ones(0), 1);
        check.due("least", x.ones(1), 20);
        check.due("greatest", x.ones(2), 20);
        x.forget();
        x.sees(19, 6, 0);
        check.due("NERVE 6 at most: he would have", x.ones(0), 0);
        x.forget();
        x.sees(20, 0, 0);
        check.due("SHAME 20 at most: he would have", x.ones(0), 0);
        x.forget();
        x.sees(0, 0, 1);
        check.due("SHAME 0, or NERVE 0", x.ones(0), 27);
        check.due("least", x.ones(1), 0);
        check.due("greatest", x.ones(2), 20);
    }

    private static void looking() {
        ScytheKeepers x = new ScytheKeepers();
        check.due("look(-1)", x.look(-1), ScytheKeepers.BAD);
        check.due("look(21)", x.look(21), ScytheKeepers.BAD);
        check.due("look(0)", x.look(0), 2);
        check.due("look(20): he had in any case", x.look(20), 0);
        x.sees(2, 2, 1);
        check.due("look(0): 47 of 75 by one other, 48 by none", x.look(0), 1);
        x.forget();
        x.sees(4, 2, 0);
        check.due("look(4): NERVE 3 .. 6, halves", x.look(4), 4);
        check.due("look(0): as on DAY 4", x.look(0), 4);
        check.due("look(12): halves by SHAME alone", x.look(12), 0);
        x.sees(5, 2, 1);
        x.sees(4, 4, 1);
        check.due("two are left", x.ones(0), 2);
        check.due("look(4)", x.look(4), 3);
        check.due("look(5): nothing is to be learnt", x.look(5), 0);
        x.sees(4, 3, 1);
        check.due("one is left", x.look(4), ScytheKeepers.NONE);
        x.sees(20, 6, 0);
        check.due("none is left", x.look(4), ScytheKeepers.NONE);
        check.due("none is left, BAD first", x.look(21), ScytheKeepers.BAD);
    }
}
