/** Promises 5, 6 and 21: each sentence about what is told of NOW that names an edge, a test of its own. */
public final class NowEdgeTest {
    private static final Check check = new Check();
    private static final int BAD = ScytheKeepers.BAD;

    public static void main(String[] args) {
        atFirst();
        farmersLeastAndMost();
        farmerThatThereIsNot();
        farmerWhatBeyond();
        askedOrNot();
        scythesWithHim();
        ringOfNone();
        ringFromTwoToSix();
        asksNowAndLatest();
        asksFirst();
        doneNowAndLatest();
        allNowAndLatest();
        allOfNoFarmers();
        nothingIsChanged();
        daysToComeAreDry();
        leastAndMostOfNow();
        nowWhatBeyond();
        undoneFromNoneToTen();
        countWhatBeyond();
        countsFromNoneToAll();
        check.finish();
    }

    private static void atFirst() {
        check.of("DAY is 0 at first, nobody has ASKED, nothing is MOWN.");
        ScytheKeepers x = Check.told("f1 9 0 0 1;f5 6 7 2 0;");
        check.due("DAY", x.now(0), 0);
        check.due("who has ASKED", x.now(1), 0);
        check.due("farmer(0, 5)", x.farmer(0, 5), 0);
        check.due("what is left of all", x.now(2), 15);
        check.due("farmer(0, 1)", x.farmer(0, 1), 9);
        check.due("farmer(1, 1)", x.farmer(1, 1), 6);
    }

    private static void farmersLeastAndMost() {
        check.of("0 FARM, 1 what is left of his FIELD, 2 SHAME, 3 NERVE, 4 KEEPER,");
        ScytheKeepers x = Check.told("f30 9 20 6 5;f0 1 0 0 0;f1 1 1 1 0;f29 8 19 5 1;f15 5 10 3 2;f2 2 2 2 4;");
        int[][] want = {{30, 9, 20, 6, 5}, {0, 1, 0, 0, 0}, {1, 1, 1, 1, 0}, {29, 8, 19, 5, 1}, {15, 5, 10, 3, 2}, {2, 2, 2, 2, 4}};
        for (int f = 0; f < 6; f++) {
            for (int what = 0; what <= 4; what++) {
                check.due("farmer(" + f + ", " + what + ")", x.farmer(f, what), want[f][what]);
            }
        }
    }

    private static void farmerThatThereIsNot() {
        check.of("`int farmer(int f, int what)`: Of one:");
        for (int what = 0; what <= 9; what++) {
            int w = what;
            check.due("farmer(2, " + w + ") of three", Check.busy().farmer(2, w) == BAD ? 1 : 0, 0);
            check.refused("farmer(3, " + w + ") of three", Check::busy, x -> x.farmer(3, w), BAD);
            for (int f : Check.FAR_OFF) {
                check.due("farmer(" + f + ", " + w + ")", Check.busy().farmer(f, w), BAD);
            }
        }
        ScytheKeepers x = Check.told("f0 1 0 0 1;f0 1 0 0 0;f0 1 0 0 0;");
        Check.read(x, "f0 1 0 0 1;f0 1 0 0 0;");
        check.due("farmer(2, 1), who was there till then", x.farmer(2, 1), BAD);
    }

    private static void farmerWhatBeyond() {
        check.of("5 whether he has ASKED (1, 0), 6 whose scythes hang with him (bits), 7 RING, 8 ASKS (NONE), 9 DONE (NONE). BAD.");
        check.refused("farmer(0, 10)", Check::busy, x -> x.farmer(0, 10), BAD);
        for (int what : Check.FAR_OFF) {
            check.refused("farmer(0, " + what + ")", Check::busy, x -> x.farmer(0, what), BAD);
        }
        check.due("farmer(5, 10) of none", new ScytheKeepers().farmer(5, 10), BAD);
    }

    private static void askedOrNot() {
        check.of("5 whether he has ASKED (1, 0)");
        ScytheKeepers x = Check.told("f0 1 20 6 1;f0 1 20 6 0;f0 1 20 6 0;f0 1 20 6 0;f0 1 20 6 0;f0 1 20 6 0;");
        x.brings(5);
        for (int f = 0; f < 6; f++) {
            check.due("farmer(" + f + ", 5)", x.farmer(f, 5), f == 5 ? 1 : 0);
        }
    }

    private static void scythesWithHim() {
        check.of("6 whose scythes hang with him (bits)");
        ScytheKeepers x = Check.told("f0 1 20 6 5;f0 1 20 6 5;f0 1 20 6 5;f0 1 20 6 5;f0 1 20 6 5;f0 1 20 6 0;");
        int[] want = {32, 0, 0, 0, 0, 31};
        for (int f = 0; f < 6; f++) {
            check.due("farmer(" + f + ", 6)", x.farmer(f, 6), want[f]);
        }
        // rows that six FARMERS filled are nothing to two
        Check.read(x, "f0 1 20 6 1;f0 1 20 6 0;");
        check.due("farmer(0, 6) of two", x.farmer(0, 6), 2);
        check.due("farmer(1, 6) of two", x.farmer(1, 6), 1);
    }

    private static void ringOfNone() {
        check.of("0: he is of none.");
        // his scythe's way goes into a RING of two, and never comes back
        ScytheKeepers x = Check.told("f0 1 0 0 1;f0 1 0 0 2;f0 1 0 0 3;f0 1 0 0 4;f0 1 0 0 5;f0 1 0 0 4;");
        int[] want = {0, 0, 0, 0, 2, 2};
        for (int f = 0; f < 6; f++) {
            check.due("farmer(" + f + ", 7)", x.farmer(f, 7), want[f]);
        }
    }

    private static void ringFromTwoToSix() {
        check.of("RING of one: how many are of it: his scythe hangs with the second one, that one's with the third .., "
                + "the last one's with him");
        for (int n = 2; n <= 6; n++) {
            StringBuilder text = new StringBuilder();
            for (int f = 0; f < n; f++) {
                text.append("f0 1 0 0 ").append((f + 1) % n).append(';');
            }
            ScytheKeepers x = Check.told(text.toString());
            for (int f = 0; f < n; f++) {
                check.due("farmer(" + f + ", 7) of " + n, x.farmer(f, 7), n);
            }
        }
    }

    private static void asksNowAndLatest() {
        check.of("ASKS of one: behind how many DAYS (0 .. 60) he has ASKED first; NONE.");
        ScytheKeepers x = Check.told("f0 1 20 6 1;f0 1 20 6 0;f0 1 0 6 0;f0 1 20 0 0;");
        x.brings(0);
        check.due("he has", x.farmer(0, 8), 0);
        check.due("SHAME 20, NERVE 6: the latest that can be", x.farmer(1, 8), 21);
        check.due("SHAME 0", x.farmer(2, 8), 1);
        check.due("NERVE 0", x.farmer(3, 8), 1);
        Check.days(x, 0, 20);
        check.due("on DAY 20", x.farmer(1, 8), 1);
        x.day(0);
        check.due("on DAY 21", x.farmer(1, 8), 0);
    }

    private static void asksFirst() {
        check.of("ASKS of one: behind how many DAYS (0 .. 60) he has ASKED first");
        // each but the first waits for one more
        ScytheKeepers x = Check.told("f0 1 3 6 1;f0 1 20 1 0;f0 1 20 2 0;f0 1 20 3 0;f0 1 20 4 0;f0 1 20 5 0;");
        for (int f = 0; f < 6; f++) {
            check.due("farmer(" + f + ", 8)", x.farmer(f, 8), 4 + f);
        }
        check.due("nobody has NOW", x.now(1), 0);
    }

    private static void doneNowAndLatest() {
        check.of("DONE of one: behind how many DAYS (0 .. 60) his FIELD has nothing left first; NONE.");
        ScytheKeepers x = Check.told("f0 1 0 6 1;f0 9 20 6 2;f0 9 20 6 1;");
        check.due("one DAY of mowing", x.farmer(0, 9), 1);
        check.due("nine, from DAY 20 on: the latest that can be", x.farmer(1, 9), 29);
        x.day(1);
        check.due("nothing is left", x.farmer(0, 9), 0);
        check.due("a DAY later", x.farmer(1, 9), 28);
        Check.days(x, 1, 28);
        check.due("nothing is left", x.farmer(1, 9), 0);
    }

    private static void allNowAndLatest() {
        check.of("ALL: behind how many DAYS all FIELDS have nothing left; NONE.");
        ScytheKeepers x = Check.told("f0 1 0 6 1;f0 9 20 6 2;f0 9 20 6 1;");
        check.due("the latest that can be", x.now(3), 29);
        Check.days(x, 1, 28);
        check.due("a DAY is left", x.now(3), 1);
        x.day(0);
        check.due("it was wet", x.now(3), 1);
        x.day(1);
        check.due("all is mown", x.now(3), 0);
        ScytheKeepers y = Check.told("f0 1 0 6 1;f0 2 0 6 0;");
        check.due("of several the latest", y.now(3), 2);
    }

    private static void allOfNoFarmers() {
        check.of("ALL: behind how many DAYS all FIELDS have nothing left");
        check.due("now(3) of none", new ScytheKeepers().now(3), 0);
    }

    private static void nothingIsChanged() {
        check.of("(As things are NOW; nothing is changed; days to come are dry.)");
        for (int what = 0; what <= 9; what++) {
            int w = what;
            check.changesNothing("farmer(0, " + w + ")", Check::busy, x -> x.farmer(0, w));
            check.changesNothing("now(" + w + ")", Check::busy, x -> x.now(w));
            check.changesNothing("count(" + w + ")", Check::busy, x -> x.count(w));
            check.changesNothing("start(" + 2 * w + ")", Check::busy, x -> x.start(2 * w));
            check.changesNothing("hang(" + (w - 1) + ")", Check::busy, x -> x.hang(w - 1));
            check.changesNothing("odds(0, " + w + ", 8, 0)", Check::busy, x -> x.odds(0, w, 8, 0));
            check.changesNothing("look(" + 2 * w + ")", Check::busy, x -> x.look(2 * w));
            check.changesNothing("ones(" + w + ")", Check::busy, x -> x.ones(w));
        }
        check.changesNothing("trace()", Check::busy, x -> (int) x.trace());
    }

    private static void daysToComeAreDry() {
        check.of("(As things are NOW; nothing is changed; days to come are dry.)");
        ScytheKeepers x = Check.told("f0 3 0 6 1;f0 3 0 6 0;");
        Check.days(x, 0, 5);
        check.due("DONE behind wet DAYS", x.farmer(0, 9), 3);
        check.due("ALL behind wet DAYS", x.now(3), 3);
        // as things are NOW: one is BROUGHT, a scythe is HUNG elsewhere
        ScytheKeepers y = Check.told("f0 1 0 6 1;f0 9 20 6 2;f0 9 20 6 1;");
        y.brings(1);
        check.due("DONE of who was BROUGHT", y.farmer(1, 9), 9);
        y.undo();
        y.hangs(1, 0);
        check.due("DONE by two, from DAY 20 on", y.farmer(1, 9), 25);
    }

    private static void leastAndMostOfNow() {
        check.of("0 DAY, 1 who has ASKED (bits), 2 what is left of all FIELDS together,");
        ScytheKeepers x = Check.told("f0 9 20 6 1;f0 9 20 6 0;f0 9 20 6 0;f0 9 20 6 0;f0 9 20 6 0;f0 9 0 6 0;");
        check.due("what is left of six", x.now(2), 54);
        check.due("who has ASKED: none", x.now(1), 0);
        x.day(1);
        check.due("who has ASKED: the last", x.now(1), 32);
        check.due("what is left", x.now(2), 53);
        Check.days(x, 1, 30);
        check.due("who has ASKED: all", x.now(1), 63);
        check.due("what is left: nothing", x.now(2), 0);
        check.due("DAY", x.now(0), 31);
    }

    private static void nowWhatBeyond() {
        check.of("3 ALL (NONE), 4 how many may be UNDONE. BAD.");
        check.refused("now(5)", Check::busy, x -> x.now(5), BAD);
        for (int what : Check.FAR_OFF) {
            check.refused("now(" + what + ")", Check::busy, x -> x.now(what), BAD);
        }
    }

    private static void undoneFromNoneToTen() {
        check.of("4 how many may be UNDONE.");
        ScytheKeepers x = Check.told("f0 3 0 6 1;f0 3 0 6 0;");
        for (int days = 0; days <= 25; days++) {
            check.due("now(4) behind " + days, x.now(4), Math.min(days, 10));
            x.day(0);
        }
    }

    private static void countWhatBeyond() {
        check.of("0 FARMERS, 1 SEEN, 2 letters of THE TEXT. BAD.");
        check.refused("count(3)", Check::busy, x -> x.count(3), BAD);
        for (int what : Check.FAR_OFF) {
            check.refused("count(" + what + ")", Check::busy, x -> x.count(what), BAD);
        }
    }

    private static void countsFromNoneToAll() {
        check.of("0 FARMERS, 1 SEEN, 2 letters of THE TEXT.");
        ScytheKeepers x = new ScytheKeepers();
        for (int what = 0; what <= 2; what++) {
            check.due("count(" + what + ") of none", x.count(what), 0);
        }
        Check.read(x, "f0 1 0 0 1;f0 1 0 0 0;f0 1 0 0 0;f0 1 0 0 0;f0 1 0 0 0;f0 1 0 0 0;");
        Check.write(x, " ".repeat(140));
        for (int i = 0; i < 6; i++) {
            x.sees(20, 6, 1);
        }
        check.due("count(0)", x.count(0), 6);
        check.due("count(1)", x.count(1), 6);
        check.due("count(2)", x.count(2), 140);
    }
}
