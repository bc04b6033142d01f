/** Promises 1 to 6 and 21: a new object, THE TEXT, what is told of FARMERS and of NOW. */
public final class ValleyTest {
    private static final Check check = new Check();

    public static void main(String[] args) {
        newObject();
        typing();
        clearing();
        rightTexts();
        wrongTexts();
        wrongTextChangesNothing();
        readAnew();
        farmers();
        nows();
        counts();
        check.finish();
    }

    private static void newObject() {
        ScytheKeepers x = new ScytheKeepers();
        for (int what = 0; what <= 4; what++) {
            check.due("new: now(" + what + ")", x.now(what), 0);
        }
        for (int what = 0; what <= 2; what++) {
            check.due("new: count(" + what + ")", x.count(what), 0);
        }
        check.due("new: trace()", x.trace(), 0);
        check.due("new: farmer(0, 0)", x.farmer(0, 0), ScytheKeepers.BAD);
        check.due("new: undo()", x.undo(), ScytheKeepers.STATE);
        check.due("new: back(0)", x.back(0), ScytheKeepers.STATE);
        check.due("new: back(1)", x.back(1), ScytheKeepers.STATE);
        check.due("new: forget()", x.forget(), 0);
        check.due("new: clear()", x.clear(), 0);
        check.due("new: keep(0)", x.keep(0), 0);
    }

    private static void typing() {
        ScytheKeepers x = new ScytheKeepers();
        check.due("type(0)", x.type(0), 1);
        check.due("type(255)", x.type(255), 2);
        check.due("type(-1)", x.type(-1), ScytheKeepers.BAD);
        check.due("type(256)", x.type(256), ScytheKeepers.BAD);
        check.due("type(least)", x.type(Integer.MIN_VALUE), ScytheKeepers.BAD);
        for (int i = 3; i <= 140; i++) {
            check.due("type() to " + i, x.type(' '), i);
        }
        check.due("type() of 141", x.type(' '), ScytheKeepers.FULL);
        check.due("type() of 141, BAD first", x.type(256), ScytheKeepers.BAD);
        check.due("count(2) when full", x.count(2), 140);
    }

    private static void clearing() {
        ScytheKeepers x = Check.told("f0 1 0 0 1;f0 1 0 0 0;");
        Check.write(x, "f0 ");
        check.due("clear()", x.clear(), 3);
        check.due("clear() again", x.clear(), 0);
        check.due("FARMERS behind clear()", x.count(0), 2);
        check.due("type() behind clear()", x.type('f'), 1);
    }

    private static void right(String text, int items) {
        ScytheKeepers x = new ScytheKeepers();
        check.due("valley() of '" + text + "'", Check.read(x, text), items);
        check.due("FARMERS of '" + text + "'", x.count(0), items);
        check.due("letters behind '" + text + "'", x.count(2), 0);
    }

    private static void rightTexts() {
        right("", 0);
        right("   ", 0);
        right("f0 1 0 0 1;f0 1 0 0 0;", 2);
        right("f30 9 20 6 1;f30 9 20 6 0;", 2);
        right("  f  0  1  0  0  1  ;  f  0  1  0  0  0  ;  ", 2);
        right("f0 1 0 0 5;f0 1 0 0 5;f0 1 0 0 5;f0 1 0 0 5;f0 1 0 0 5;f0 1 0 0 0;", 6);
        StringBuilder wide = new StringBuilder("f0 1 0 0 1;f0 1 0 0 0;");
        while (wide.length() < 140) {
            wide.insert(0, ' ');
        }
        right(wide.toString(), 2);
    }

    private static void fault(String text, int place) {
        ScytheKeepers x = new ScytheKeepers();
        check.due("valley() of '" + text + "'", Check.read(x, text), -10 - place);
        check.due("letters of '" + text + "'", x.count(2), text.length());
    }

    private static void wrongTexts() {
        numbersBeyond();
        tokensThatCannotStand();
        textsThatEndEarly();
        String pair = "f0 1 0 0 1;f0 1 0 0 0;";
        fault(pair + "x", 22);
        fault("f0 1 0 0 9x", 9);
        fault("x f0 1 0 0 9;", 0);
        fault("f0 1 0 0 1;", 11);
        fault("f0 1 0 0 1;  ", 13);
        fault("f0 1 0 0 2;f0 1 0 0 0;", 22);
        fault("f0 1 0 0 1;f0 1 0 0 2; ", 23);
        fault("f0 1 0 0 2;f0 1 0 0 0;x", 22);
        fault("f0 1 0 0 1;f0 1 0 0 0;f0 1 0 0 0;f0 1 0 0 0;f0 1 0 0 0;f0 1 0 0 0; f0 1 0 0 0;", 67);
        fault("f0 1 0 0 1;f0 1 0 0 0;f0 1 0 0 0;f0 1 0 0 0;f0 1 0 0 0;f0 1 0 0 0;f", 66);
    }

    private static void numbersBeyond() {
        fault("f31 1 0 0 1;f0 1 0 0 0;", 1);
        fault("f 31 1 0 0 1;f0 1 0 0 0;", 2);
        fault("f0 0 0 0 1;f0 1 0 0 0;", 3);
        fault("f0 10 0 0 1;f0 1 0 0 0;", 3);
        fault("f0 1 21 0 1;f0 1 0 0 0;", 5);
        fault("f0 1 0 7 1;f0 1 0 0 0;", 7);
        fault("f0 1 0 0 6;f0 1 0 0 0;", 9);
        fault("f0 1 0 0 0;f0 1 0 0 0;", 9);
        fault("f0 1 0 0 1;f0 1 0 0 1;", 20);
        fault("f0 1 0 0 1;f0 1 0 0 0;f0 1 0 0 2;", 31);
        fault("f100 1 0 0 1;f0 1 0 0 0;", 1);
        fault("f4294967296 1 0 0 1;f0 1 0 0 0;", 1);
        fault("f18446744073709551616 1 0 0 1;f0 1 0 0 0;", 1);
        fault("f00 1 0 0 1;f0 1 0 0 0;", 1);
        fault("f0 01 0 0 1;f0 1 0 0 0;", 3);
        fault("f0 1 0 0 01;f0 1 0 0 0;", 9);
        fault("f0 1 0 0 1 00", 11);
    }

    private static void tokensThatCannotStand() {
        fault(";", 0);
        fault(" 5", 1);
        fault("ff0 1 0 0 1;", 1);
        fault("f0 1 0 0;f0 1 0 0 0;", 8);
        fault("f0 1 0 0 1 1;f0 1 0 0 0;", 11);
        fault("f0 1 0 0 1;;", 11);
        fault("f0 1 0 0 1 f0 1 0 0 0;", 11);
        fault("f0 1 -1 0 1;", 5);
        fault("F0 1 0 0 1;", 0);
        fault("f0\t1 0 0 1;", 2);
        fault("f0 1 0 0 1" + (char) 255 + ";", 10);
        fault("f0 1 0 0 1:", 10);
        fault("f/ 1 0 0 1;", 1);
        fault((char) 0 + "", 0);
        fault((char) 160 + "", 0);
    }

    private static void textsThatEndEarly() {
        String whole = "f0 1 0 0 1;f0 1 0 0 0;";
        for (int end = 1; end < whole.length(); end++) {
            fault(whole.substring(0, end), end);
        }
        fault("f  ", 3);
        fault("f0 1 0 0 1  ", 12);
        // what was cleared is not read behind the end
        ScytheKeepers x = new ScytheKeepers();
        Check.write(x, "f0 1 0 0 19;;;");
        x.clear();
        check.due("valley() behind clear()", Check.read(x, "f0 1 0 0 1"), -20);
        StringBuilder wide = new StringBuilder("f0 1 0 0 1");
        while (wide.length() < 140) {
            wide.insert(1, ' ');
        }
        fault(wide.toString(), 140);
    }

    private static void wrongTextChangesNothing() {
        ScytheKeepers x = Check.told("f1 2 3 4 1;f5 6 7 2 0;");
        x.day(0);
        x.sees(1, 1, 1);
        x.keep(1);
        check.due("a wrong text", Check.read(x, "f9 9 9 0 1;f9 9 9 0 0;f9 9 9 0 9;"), -41);
        check.due("FARMERS as before", x.count(0), 2);
        check.due("FARM as before", x.farmer(0, 0), 1);
        check.due("FIELD as before", x.farmer(1, 1), 6);
        check.due("NERVE as before", x.farmer(0, 3), 4);
        check.due("KEEPER as before", x.farmer(0, 4), 1);
        check.due("DAY as before", x.now(0), 1);
        check.due("UNDONE as before", x.now(4), 1);
        check.due("SEEN as before", x.count(1), 1);
        check.due("THE TEXT as before", x.clear(), 33);
        check.due("IMAGE as before", x.back(1), 1);
    }

    private static void readAnew() {
        ScytheKeepers x = Check.told("f1 2 3 4 1;f5 6 7 2 0;f9 1 0 0 0;");
        x.day(1);
        x.brings(0);
        x.hangs(1, 2);
        x.sees(1, 1, 1);
        x.keep(0);
        x.keep(1);
        x.rate(3, 0);
        check.due("valley() anew", Check.read(x, "f1 2 3 4 1;f5 6 7 2 0;"), 2);
        check.due("anew: FARMERS", x.count(0), 2);
        check.due("anew: farmer(2, 0)", x.farmer(2, 0), ScytheKeepers.BAD);
        check.due("anew: DAY", x.now(0), 0);
        check.due("anew: ASKED", x.now(1), 0);
        check.due("anew: FIELDS", x.now(2), 8);
        check.due("anew: UNDONE", x.now(4), 0);
        check.due("anew: undo()", x.undo(), ScytheKeepers.STATE);
        check.due("anew: KEEPER", x.farmer(1, 4), 0);
        check.due("anew: SEEN", x.count(1), 0);
        check.due("anew: ONES", x.ones(0), 147);
        check.due("anew: back(0)", x.back(0), ScytheKeepers.STATE);
        check.due("anew: back(1)", x.back(1), ScytheKeepers.STATE);
        check.due("anew: THE TRACE is not of NOW", x.trace(), 1011);
        check.due("valley() of nothing", x.valley(), 0);
        check.due("nobody is left", x.count(0), 0);
        check.due("nothing is left", x.now(2), 0);
    }

    private static void farmers() {
        ScytheKeepers x = Check.told("f30 9 20 6 1;f5 2 0 3 2;f7 3 15 1 1;");
        int[][] want = {
            // he waits for his SHAME (six others there never are); then 1 helps him
            {30, 9, 20, 6, 1, 0, 0, 0, 21, 25},
            {5, 2, 0, 3, 2, 0, 5, 2, 1, 2},
            {7, 3, 15, 1, 1, 0, 2, 2, 2, 3},
        };
        for (int f = 0; f < want.length; f++) {
            for (int what = 0; what < want[f].length; what++) {
                check.due("farmer(" + f + ", " + what + ")", x.farmer(f, what), want[f][what]);
            }
        }
        check.due("farmer(-1, 0)", x.farmer(-1, 0), ScytheKeepers.BAD);
        check.due("farmer(3, 0)", x.farmer(3, 0), ScytheKeepers.BAD);
        check.due("farmer(0, -1)", x.farmer(0, -1), ScytheKeepers.BAD);
        check.due("farmer(0, 10)", x.farmer(0, 10), ScytheKeepers.BAD);
        check.due("nothing changed", x.now(0) + x.now(1), 0);
        x.day(0);
        check.due("has ASKED", x.farmer(1, 5), 1);
        check.due("has not ASKED", x.farmer(2, 5), 0);
        check.due("ASKS, who has", x.farmer(1, 8), 0);
        check.due("ASKS a DAY later", x.farmer(0, 8), 20);
    }

    private static void nows() {
        ScytheKeepers x = Check.told("f0 2 0 6 1;f9 3 2 6 0;");
        check.due("now(2)", x.now(2), 5);
        check.due("now(3)", x.now(3), 4);
        x.day(1);
        check.due("now(0)", x.now(0), 1);
        check.due("now(1)", x.now(1), 1);
        check.due("now(2) behind a DAY", x.now(2), 4);
        check.due("now(3) behind a DAY", x.now(3), 3);
        check.due("now(4)", x.now(4), 1);
        check.due("now(5)", x.now(5), ScytheKeepers.BAD);
        check.due("now(-1)", x.now(-1), ScytheKeepers.BAD);
        check.due("nothing changed", x.now(0), 1);
    }

    private static void counts() {
        ScytheKeepers x = Check.told("f0 2 0 6 1;f9 3 2 6 0;");
        Check.write(x, "f9");
        x.sees(3, 3, 1);
        x.sees(3, 3, 1);
        x.sees(3, 3, 1);
        check.due("count(0)", x.count(0), 2);
        check.due("count(1)", x.count(1), 3);
        check.due("count(2)", x.count(2), 2);
        check.due("count(3)", x.count(3), ScytheKeepers.BAD);
        check.due("count(-1)", x.count(-1), ScytheKeepers.BAD);
    }
}
