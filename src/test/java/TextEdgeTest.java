/** Promises 1 to 4: each sentence about THE TEXT that names an edge, a test of its own. */
public final class TextEdgeTest {
    private static final Check check = new Check();
    private static final int BAD = ScytheKeepers.BAD;
    private static final int FULL = ScytheKeepers.FULL;
    private static final int STATE = ScytheKeepers.STATE;
    private static final String PAIR = "f0 1 0 0 1;f0 1 0 0 0;";
    private static final String SIX = "f0 1 0 0 1;f0 1 0 0 0;f0 1 0 0 0;f0 1 0 0 0;f0 1 0 0 0;f0 1 0 0 0;";

    public static void main(String[] args) {
        newObject();
        lettersFrom0To255();
        lettersBeyond();
        lettersAtMost140();
        badAheadOfFull();
        clearOfNothingAndOfAll();
        sixFarmersAtMost();
        farmFrom0To30();
        fieldFrom1To9();
        shameFrom0To20();
        nerveFrom0To6();
        keeperFrom0To5();
        keeperNotHimself();
        keeperOfSeveral();
        blanksBetweenTokens();
        noOtherLetterIsABlank();
        itemsEndedBySemicolon();
        keeperToldBehindHim();
        otherLetters();
        tokensThatCannotStand();
        firstFaultOfSeveral();
        seventhF();
        numberBeyondWhatItMayBe();
        numberAbove99();
        zeroAheadOfOthers();
        endsTooEarly();
        keeperThatThereIsNot();
        keeperThatThereIsNotBehindOtherFaults();
        valleyEmptiesTheText();
        itemsFromNoneToSix();
        faultFrom0To140();
        wrongTextChangesNothing();
        readAnewAsTold();
        readAnewNothingSeen();
        readAnewImagesAreGone();
        check.finish();
    }

    private static int read(String text) {
        return Check.read(new ScytheKeepers(), text);
    }

    private static void items(String text, int items) {
        check.due("valley() of '" + text + "'", read(text), items);
    }

    private static void fault(String text, int place) {
        check.due("valley() of '" + text + "'", read(text), -10 - place);
    }

    private static String filled(String text, int length) {
        return text + " ".repeat(length - text.length());
    }

    private static void newObject() {
        check.of("`ScytheKeepers()`: As told; no FARMERS.");
        ScytheKeepers x = new ScytheKeepers();
        check.due("count(0)", x.count(0), 0);
        for (int what = 0; what <= 9; what++) {
            check.due("farmer(0, " + what + ")", x.farmer(0, what), BAD);
        }
        check.due("brings(0)", x.brings(0), BAD);
        check.due("hangs(0, 1)", x.hangs(0, 1), BAD);
        check.due("odds(0, 0, 0, 0)", x.odds(0, 0, 0, 0), BAD);
        check.due("rate(0, 0)", x.rate(0, 0), ScytheKeepers.NO);
        check.due("DAY", x.now(0), 0);
        check.due("who has ASKED", x.now(1), 0);
        check.due("what is left", x.now(2), 0);
        check.due("what may be UNDONE", x.now(4), 0);
        check.due("undo()", x.undo(), STATE);
        check.due("SEEN", x.count(1), 0);
        check.due("ONES", x.ones(0), 147);
        check.due("letters", x.count(2), 0);
        check.due("back(0)", x.back(0), STATE);
        check.due("back(1)", x.back(1), STATE);
        check.due("trace()", x.trace(), 0);
    }

    private static void lettersFrom0To255() {
        check.of("A letter (0 .. 255) comes to THE TEXT: how many it has.");
        ScytheKeepers low = new ScytheKeepers();
        ScytheKeepers high = new ScytheKeepers();
        for (int i = 0; i < 128; i++) {
            check.due("type(" + i + ")", low.type(i), i + 1);
            check.due("type(" + (255 - i) + ")", high.type(255 - i), i + 1);
        }
    }

    private static void lettersBeyond() {
        check.of("A letter (0 .. 255) comes to THE TEXT: how many it has. BAD; FULL.");
        // those that are an f, if all but eight bits are lost
        int[] beyond = {-1, 256, 256 + 'f', 'f' - 256, 65536 + 'f', Integer.MIN_VALUE, Integer.MAX_VALUE};
        for (int letter : beyond) {
            check.refused("type(" + letter + ")", TextEdgeTest::begun, x -> x.type(letter), BAD);
        }
    }

    private static ScytheKeepers begun() {
        ScytheKeepers x = Check.told(PAIR);
        Check.write(x, "f0 1");
        return x;
    }

    private static ScytheKeepers full() {
        ScytheKeepers x = Check.told(PAIR);
        Check.write(x, filled(SIX, 140));
        return x;
    }

    private static void lettersAtMost140() {
        check.of("They are a text (140 letters at most), told letter by letter");
        ScytheKeepers x = new ScytheKeepers();
        Check.write(x, filled(SIX, 139));
        check.due("type() of the 140th", x.type(' '), 140);
        check.due("type() of the 141st", x.type('x'), FULL);
        check.due("type() once more", x.type('x'), FULL);
        check.due("count(2)", x.count(2), 140);
        check.due("valley() of 140", x.valley(), 6);
        check.due("type() behind it", x.type(' '), 1);
        check.refused("type() of the 141st", TextEdgeTest::full, y -> y.type('x'), FULL);
    }

    private static void badAheadOfFull() {
        check.of("Refused, and nothing changes, the first of these: BAD (a number is not as told, or there is no such "
                + "thing), STATE (as told), FULL.");
        check.refused("type(256) when full", TextEdgeTest::full, x -> x.type(256), BAD);
        check.refused("type(-1) when full", TextEdgeTest::full, x -> x.type(-1), BAD);
    }

    private static void clearOfNothingAndOfAll() {
        check.of("THE TEXT is empty: how many letters it had.");
        ScytheKeepers x = new ScytheKeepers();
        check.due("clear() of none", x.clear(), 0);
        Check.write(x, filled("x", 140));
        check.due("clear() of 140", x.clear(), 140);
        check.due("clear() again", x.clear(), 0);
        check.due("letters", x.count(2), 0);
        check.due("valley() of what came behind", Check.read(x, PAIR), 2);
        Check.write(x, "f0 1 0 0 1;x");
        x.clear();
        check.due("FARMERS stay", x.count(0), 2);
        check.due("what was cleared is not read", Check.read(x, "f0 1 0 0 1"), -20);
    }

    private static void sixFarmersAtMost() {
        check.of("(6 at most): FARM");
        items(SIX, 6);
        ScytheKeepers x = Check.told(SIX);
        check.due("farmer(5, 1)", x.farmer(5, 1), 1);
        check.due("farmer(6, 1)", x.farmer(6, 1), BAD);
        check.holds("seven are refused", read(SIX + "f0 1 0 0 0;") < -9);
    }

    /** A number of the first and of the second FARMER, at both its edges and beyond them. */
    private static void edges(String first, String second, int what, int least, int most) {
        for (int number : new int[] {least, most}) {
            ScytheKeepers x = Check.told(String.format(first, number));
            check.due("farmer(0, " + what + ")", x.farmer(0, what), number);
            ScytheKeepers y = Check.told(String.format(second, number));
            check.due("farmer(1, " + what + ")", y.farmer(1, what), number);
        }
        beyond(first, least, most);
        beyond(second, least, most);
    }

    private static void beyond(String text, int least, int most) {
        fault(String.format(text, most + 1), text.indexOf('%'));
        if (least > 0) {
            fault(String.format(text, least - 1), text.indexOf('%'));
        }
    }

    private static void farmFrom0To30() {
        check.of("FARM (0 .. 30, along the valley)");
        edges("f%d 1 0 0 1;f0 1 0 0 0;", "f0 1 0 0 1;f%d 1 0 0 0;", 0, 0, 30);
    }

    private static void fieldFrom1To9() {
        check.of("FIELD (1 .. 9 days of mowing)");
        edges("f0 %d 0 0 1;f0 1 0 0 0;", "f0 1 0 0 1;f0 %d 0 0 0;", 1, 1, 9);
    }

    private static void shameFrom0To20() {
        check.of("SHAME (0 .. 20:");
        edges("f0 1 %d 0 1;f0 1 0 0 0;", "f0 1 0 0 1;f0 1 %d 0 0;", 2, 0, 20);
    }

    private static void nerveFrom0To6() {
        check.of("NERVE (0 .. 6:");
        edges("f0 1 0 %d 1;f0 1 0 0 0;", "f0 1 0 0 1;f0 1 0 %d 0;", 3, 0, 6);
    }

    private static void keeperFrom0To5() {
        check.of("KEEPER (0 .. 5,");
        String first = "f0 1 0 0 %d;f0 1 0 0 0;f0 1 0 0 0;f0 1 0 0 0;f0 1 0 0 0;f0 1 0 0 0;";
        check.due("KEEPER 5", Check.told(String.format(first, 5)).farmer(0, 4), 5);
        fault(String.format(first, 6), 9);
        String last = SIX.substring(0, 55) + "f0 1 0 0 %d;";
        check.due("KEEPER 0", Check.told(String.format(last, 0)).farmer(5, 4), 0);
        fault(String.format(last, 6), 64);
    }

    private static void keeperNotHimself() {
        check.of("not his own number: at whose barn his scythe hangs");
        for (int f = 0; f < 6; f++) {
            // the last letter but one of an ITEM is its KEEPER
            int place = 11 * f + 9;
            String text = SIX.substring(0, place) + f + SIX.substring(place + 1);
            fault(text, place);
            fault(text.substring(0, place + 1), place);
        }
    }

    private static void keeperOfSeveral() {
        check.of("one may keep several");
        ScytheKeepers x = Check.told(SIX);
        check.due("five with 0", x.farmer(0, 6), 62);
        check.due("one with 1", x.farmer(1, 6), 1);
        check.due("none with 2", x.farmer(2, 6), 0);
        Check.read(x, "f0 1 0 0 5;f0 1 0 0 5;f0 1 0 0 5;f0 1 0 0 5;f0 1 0 0 5;f0 1 0 0 4;");
        check.due("five with 5", x.farmer(5, 6), 31);
    }

    private static void blanksBetweenTokens() {
        check.of("blanks (32) between TOKENS");
        items("f0 1 0 0 1;f0 1 0 0 0;", 2);
        items("f 0 1 0 0 1 ; f 0 1 0 0 0 ;", 2);
        items("   f   0   1   0   0   1   ;   f   0   1   0   0   0   ;   ", 2);
        items(" ", 0);
        items(filled("", 140), 0);
        // without a blank two NUMBERS are one: SHAME 00, KEEPER missing
        fault("f0 1 00 1;", 5);
        fault("f12 0 0 1;", 4);
    }

    private static void noOtherLetterIsABlank() {
        check.of("blanks (32) between TOKENS");
        for (int letter : new int[] {0, 9, 10, 11, 12, 13, 31, 33, 95, 127, 133, 160, 255}) {
            fault("f0" + (char) letter + "1 0 0 1;f0 1 0 0 0;", 2);
            fault("f" + (char) letter + "0 1 0 0 1;f0 1 0 0 0;", 1);
            fault((char) letter + PAIR, 0);
            fault(PAIR + (char) letter, 22);
        }
    }

    private static void itemsEndedBySemicolon() {
        check.of("ITEMS, each ended by ;");
        fault("f0 1 0 0 1;f0 1 0 0 0", 21);
        fault("f0 1 0 0 1 f0 1 0 0 0;", 11);
        fault("f0 1 0 0 1;;f0 1 0 0 0;", 11);
        fault(PAIR + ";", 22);
        fault(";" + PAIR, 0);
        items(PAIR, 2);
    }

    private static void keeperToldBehindHim() {
        check.of("his KEEPER may be told behind him");
        items("f0 1 0 0 1;f0 1 0 0 0;", 2);
        items("f0 1 0 0 5;f0 1 0 0 5;f0 1 0 0 5;f0 1 0 0 5;f0 1 0 0 5;f0 1 0 0 4;", 6);
    }

    private static void otherLetters() {
        check.of("TOKENS are the letter f, NUMBERS and ; .");
        for (int letter = 0; letter <= 255; letter++) {
            char c = (char) letter;
            boolean token = c == 'f' || c == ';' || c == ' ' || c >= '0' && c <= '9';
            if (!token) {
                fault(c + "", 0);
                fault("f0 1 " + c + " 0 1;", 5);
                fault("f0 1 0 0 1" + c, 10);
                fault("f0 1 1" + c + " 0 1;", 6);
            }
        }
    }

    private static void tokensThatCannotStand() {
        check.of("FAULT: the place of the first letter of the first TOKEN that can't stand there");
        String[] ahead = {"", "f ", "f 12 ", "f 12 3 ", "f 12 3 10 ", "f 12 3 10 4 ", "f 12 3 10 4 1 ", "f 12 3 10 4 1 ; "};
        for (int slot = 0; slot < ahead.length; slot++) {
            boolean first = slot == 0 || slot == 7;
            boolean last = slot == 6;
            int place = ahead[slot].length();
            if (!first) {
                fault(ahead[slot] + "f", place);
            }
            if (!last) {
                fault(ahead[slot] + ";", place);
            }
            if (first || last) {
                fault(ahead[slot] + "1", place);
                fault(ahead[slot] + "  12 ", place + 2);
            }
        }
    }

    private static void firstFaultOfSeveral() {
        check.of("FAULT: the place of the first letter of the first TOKEN that can't stand there");
        fault("f31 0 21 7 9;x", 1);
        fault("f30 0 21 7 9;x", 4);
        fault("f30 9 21 7 9;x", 6);
        fault("f30 9 20 7 9;x", 9);
        fault("f30 9 20 6 9;x", 11);
        fault("f30 9 20 6 5;x", 13);
        fault("f30 9 20 6 5 x f", 13);
        fault("x f31", 0);
    }

    private static void seventhF() {
        check.of("a seventh f");
        fault(SIX + "f", 66);
        fault(SIX + "f0 1 0 0 0;", 66);
        fault(SIX + "  f0 1 0 0 0;", 68);
        fault(SIX + ";", 66);
        items(SIX + "  ", 6);
        // it is told ahead of a KEEPER that there is not
        fault("f0 1 0 0 5;f0 1 0 0 0;", 22);
        fault(SIX + "f0 1 0 0 6;", 66);
    }

    private static void numberBeyondWhatItMayBe() {
        check.of("a NUMBER beyond what it may be, too");
        int[] most = {30, 9, 20, 6, 5};
        String[] ahead = {"f0 1 0 0 1;f", "f0 1 0 0 1;f0 ", "f0 1 0 0 1;f0 1 ", "f0 1 0 0 1;f0 1 0 ", "f0 1 0 0 1;f0 1 0 0 "};
        for (int i = 0; i < most.length; i++) {
            for (int number = most[i] + 1; number <= 99; number++) {
                fault(ahead[i] + number, ahead[i].length());
            }
        }
        fault("f0 1 0 0 1;f0 0", 14);
    }

    private static void numberAbove99() {
        check.of("of any other letter, a NUMBER above 99 or with a 0 ahead of others, that TOKEN's");
        // the long ones would be 0, 1 or below 0, if they went around
        String[] above = {"100", "101", "999", "1000", "256", "65536", "65537", "2147483648", "4294967296", "4294967297",
            "18446744073709551616", "18446744073709551617", "340282366920938463463374607431768211457"};
        for (String number : above) {
            fault("f" + number + " 1 0 0 1;f0 1 0 0 0;", 1);
            fault("f0 " + number + " 0 0 1;f0 1 0 0 0;", 3);
            fault("f0 1 " + number + " 0 1;f0 1 0 0 0;", 5);
            fault("f0 1 0 " + number + " 1;f0 1 0 0 0;", 7);
            fault("f0 1 0 0 " + number + ";f0 1 0 0 0;", 9);
            fault("f0 1 0 0 1 " + number + ";f0 1 0 0 0;", 11);
        }
        fault("f0 1 0 0 1;f0 " + "1".repeat(126), 14);
    }

    private static void zeroAheadOfOthers() {
        check.of("of any other letter, a NUMBER above 99 or with a 0 ahead of others, that TOKEN's");
        for (String number : new String[] {"00", "01", "05", "000", "001", "012", "0000000001"}) {
            fault("f" + number + " 1 0 0 1;f0 1 0 0 0;", 1);
            fault("f0 " + number + " 0 0 1;f0 1 0 0 0;", 3);
            fault("f0 1 " + number + " 0 1;f0 1 0 0 0;", 5);
            fault("f0 1 0 " + number + " 1;f0 1 0 0 0;", 7);
            fault("f0 1 0 0 " + number + ";f0 1 0 0 0;", 9);
        }
        items("f0 1 0 0 1;f10 1 20 0 0;", 2);
        items("f0 1 0 0 1;f0 1 0 0 0;", 2);
    }

    private static void endsTooEarly() {
        check.of("the text's length, if it ends too early");
        String whole = "f10 1 20 0 1;f30 9 0 6 0;";
        for (int end = 1; end < whole.length(); end++) {
            fault(whole.substring(0, end), end);
            fault(whole.substring(0, end) + "  ", end + 2);
        }
        items(whole, 2);
        fault(filled("f", 140), 140);
    }

    private static void keeperThatThereIsNot() {
        check.of("or if, all else being right, a KEEPER was told that there is not");
        fault("f0 1 0 0 1;", 11);
        fault("f0 1 0 0 1;  ", 13);
        fault("f0 1 0 0 2;f0 1 0 0 0;", 22);
        fault("f0 1 0 0 1;f0 1 0 0 2;", 22);
        fault(SIX.substring(0, 44) + "f0 1 0 0 5;", 55);
        items(SIX.substring(0, 44) + "f0 1 0 0 3;", 5);
        // he was there in the valley till then
        ScytheKeepers x = Check.told(SIX);
        check.due("valley() anew", Check.read(x, "f0 1 0 0 5;f0 1 0 0 0;"), -32);
    }

    private static void keeperThatThereIsNotBehindOtherFaults() {
        check.of("all else being right, a KEEPER was told that there is not");
        fault("f0 1 0 0 5;f0 1 0 0 0;x", 22);
        fault("f0 1 0 0 5;f0 1 0 0 1;", 20);
        fault("f0 1 0 0 5;f31 1 0 0 0;  ", 12);
        fault("f0 1 0 0 5;f0 1 0 0 0", 21);
    }

    private static void valleyEmptiesTheText() {
        check.of("THE TEXT tells all anew, and is empty then: how many ITEMS.");
        ScytheKeepers x = new ScytheKeepers();
        check.due("valley()", Check.read(x, filled(PAIR, 140)), 2);
        check.due("letters", x.count(2), 0);
        check.due("clear()", x.clear(), 0);
        check.due("type()", x.type('f'), 1);
        x.clear();
        check.due("valley() of nothing", x.valley(), 0);
        check.due("FARMERS", x.count(0), 0);
        check.due("farmer(0, 0)", x.farmer(0, 0), BAD);
    }

    private static void itemsFromNoneToSix() {
        check.of("THE TEXT tells all anew, and is empty then: how many ITEMS.");
        items("", 0);
        for (int n = 2; n <= 6; n++) {
            items(SIX.substring(0, 11 * n), n);
        }
    }

    private static void faultFrom0To140() {
        check.of("-10 less FAULT: nothing changes.");
        check.due("FAULT 0", read("x"), -10);
        check.due("FAULT 139", read(filled("", 139) + "x"), -149);
        check.due("FAULT 140", read(filled("f", 140)), -150);
    }

    /** Both IMAGES are kept, too, and NOW is neither of them. */
    private static ScytheKeepers busy() {
        ScytheKeepers x = Check.busy();
        x.keep(1);
        x.day(1);
        return x;
    }

    private static void wrongTextChangesNothing() {
        check.of("-10 less FAULT: nothing changes.");
        String[] wrong = {"f9 9 9 0 1;f9 9 9 0 0;f9 9 9 0 0;f9 9 9 0 9;", "f9 9 9 0 1;f9 9 9 0 4;", "f9 9 9 0 1;", "x"};
        int[] answers = {-52, -32, -21, -10};
        for (int i = 0; i < wrong.length; i++) {
            String text = wrong[i];
            check.refused("valley() of '" + text + "'", () -> {
                ScytheKeepers x = busy();
                Check.write(x, text);
                return x;
            }, ScytheKeepers::valley, answers[i]);
        }
        ScytheKeepers x = busy();
        check.due("valley() of 'f0'", Check.read(x, "f0"), -12);
        Check.write(x, " 1 0 0 1;f0 1 0 0 0;");
        check.due("THE TEXT goes on behind it", x.valley(), 2);
    }

    private static void readAnewAsTold() {
        check.of("(Read anew: as told, nothing SEEN, IMAGES are gone.)");
        ScytheKeepers x = busy();
        check.due("valley()", Check.read(x, "f1 9 3 4 1;f5 6 7 2 0;f9 3 9 6 0;"), 3);
        check.due("DAY", x.now(0), 0);
        check.due("who has ASKED", x.now(1), 0);
        check.due("what is left", x.now(2), 18);
        check.due("what may be UNDONE", x.now(4), 0);
        check.due("undo()", x.undo(), STATE);
        check.due("KEEPER", x.farmer(0, 4), 1);
    }

    private static void readAnewNothingSeen() {
        check.of("(Read anew: as told, nothing SEEN, IMAGES are gone.)");
        ScytheKeepers x = busy();
        Check.read(x, PAIR);
        check.due("SEEN", x.count(1), 0);
        check.due("ONES", x.ones(0), 147);
        check.due("forget()", x.forget(), 0);
    }

    private static void readAnewImagesAreGone() {
        check.of("(Read anew: as told, nothing SEEN, IMAGES are gone.)");
        ScytheKeepers x = busy();
        Check.read(x, PAIR);
        check.due("back(0)", x.back(0), STATE);
        check.due("back(1)", x.back(1), STATE);
        x.keep(0);
        x.valley();
        check.due("back(0) behind a valley of none", x.back(0), STATE);
    }
}
