/** Promises 7 to 10: each sentence about what is done that names an edge, a test of its own. */
public final class DoneEdgeTest {
    private static final Check check = new Check();
    private static final int BAD = ScytheKeepers.BAD;
    private static final int STATE = ScytheKeepers.STATE;

    public static void main(String[] args) {
        dryOrWet();
        dayUpTo999();
        lastDay();
        shameIsDayOrLess();
        nerveByOthersAheadOfThisDay();
        allAtOnce();
        askingFirst();
        onlyDryDaysMow();
        onlyWhoHasAskedMows();
        nothingLeftAheadOfThat();
        lowestWhoHasAsked();
        somethingLeftYet();
        oneBehindTheOther();
        whoseScytheHangsWithHim();
        dayIsOneMore();
        mownFromNoneToSix();
        broughtDoes();
        broughtFromOneToSix();
        broughtWhoHas();
        broughtWhoThereIsNot();
        hungTillThen();
        hungWithHimself();
        hungWhereItHangs();
        hungByWhoHasAsked();
        hungWhereThereIsNobody();
        badAheadOfState();
        undoneTenAreKnown();
        undoneAroundTheRow();
        undoneNotRefused();
        undoneOnlyTheseThree();
        undoneNone();
        check.finish();
    }

    private static void dryOrWet() {
        check.of("A DAY (dry: 1, wet: 0;");
        check.due("day(0)", Check.busy().day(0), 0);
        check.due("day(1)", Check.busy().day(1), 1);
        check.refused("day(2)", Check::busy, x -> x.day(2), BAD);
        for (int dry : Check.FAR_OFF) {
            check.refused("day(" + dry + ")", Check::busy, x -> x.day(dry), BAD);
        }
    }

    /** Beyond the 512 calls for which answers are promised, as is lastDay(), but told all the same. */
    private static void dayUpTo999() {
        check.of("999 at most");
        ScytheKeepers x = Check.told("f0 1 0 6 1;f0 1 0 6 0;");
        Check.days(x, 0, 1010);
        check.due("DAY", x.now(0), 999);
        check.due("what is left", x.now(2), 2);
        check.due("days to come are nothing to that", x.now(3), 1);
    }

    private static void lastDay() {
        check.of("A DAY: how much is mown on it. BAD; STATE: it is 999.");
        ScytheKeepers x = new ScytheKeepers();
        Check.days(x, 1, 998);
        check.due("the DAY of 998", x.day(1), 0);
        check.due("DAY", x.now(0), 999);
        check.due("a DAY beyond", x.day(0), STATE);
        check.due("a dry one", x.day(1), STATE);
        check.due("BAD first", x.day(2), BAD);
        check.due("DAY as before", x.now(0), 999);
        check.due("UNDONE as before", x.now(4), 10);
        check.due("undo()", x.undo(), 9);
        check.due("DAY", x.now(0), 998);
    }

    private static void shameIsDayOrLess() {
        check.of("whose SHAME is DAY or less");
        for (int shame = 0; shame <= 20; shame++) {
            ScytheKeepers x = Check.told("f0 1 " + shame + " 6 1;f0 1 20 6 0;");
            Check.days(x, 0, shame);
            check.due("SHAME " + shame + " ahead of its DAY", x.farmer(0, 5), 0);
            x.day(0);
            check.due("SHAME " + shame + " on its DAY", x.farmer(0, 5), 1);
        }
    }

    private static void nerveByOthersAheadOfThisDay() {
        check.of("or of whom so many others as NERVE had ASKED ahead of this DAY");
        for (int nerve = 1; nerve <= 6; nerve++) {
            ScytheKeepers x = Check.told("f0 1 20 " + nerve + " 1;f0 1 20 6 0;f0 1 20 6 0;f0 1 20 6 0;f0 1 20 6 0;f0 1 20 6 0;");
            for (int other = 1; other < nerve; other++) {
                x.brings(other);
            }
            x.day(0);
            check.due("NERVE " + nerve + ", one less had", x.farmer(0, 5), 0);
            // six others there never are
            if (nerve <= 5) {
                x.undo();
                x.brings(nerve);
                x.day(0);
                check.due("NERVE " + nerve + ", so many had", x.farmer(0, 5), 1);
            }
        }
        ScytheKeepers y = Check.told("f0 1 20 0 1;f0 1 20 6 0;");
        y.day(0);
        check.due("NERVE 0, nobody had", y.farmer(0, 5), 1);
    }

    private static void allAtOnce() {
        check.of("ASK, all at once.");
        // those of lower and of higher numbers alike ASK on this DAY: 2 can't reckon with them yet
        ScytheKeepers x = Check.told("f0 1 0 6 1;f0 1 0 6 0;f0 1 20 1 0;f0 1 0 6 0;");
        x.day(0);
        check.due("who has ASKED", x.now(1), 11);
        x.day(0);
        check.due("a DAY later", x.now(1), 15);
    }

    private static void askingFirst() {
        check.of("first all who have not ASKED");
        ScytheKeepers x = Check.told("f0 9 0 6 1;f0 1 20 6 0;f0 9 20 1 0;");
        check.due("he ASKS, and mows on the same DAY", x.day(1), 1);
        check.due("2 ASKS by him, and mows on the same DAY", x.day(1), 2);
        x.brings(1);
        x.day(1);
        // SHAME 20 and NERVE 6 would have 1 wait: who has ASKED is not asked for it again
        check.due("1 has ASKED, and stays so", x.now(1), 7);
        check.due("1 helps 0", x.day(1), 3);
    }

    private static void onlyDryDaysMow() {
        check.of("If it is dry, each who has ASKED, whose own FIELD has something left, mows 1 of it");
        ScytheKeepers x = Check.told("f0 1 0 6 1;f0 9 0 6 0;");
        check.due("day(0)", x.day(0), 0);
        check.due("left of 0", x.farmer(0, 1), 1);
        check.due("they ASK, wet as it is", x.now(1), 3);
        check.due("day(1)", x.day(1), 2);
        check.due("left of 0", x.farmer(0, 1), 0);
        check.due("left of 1", x.farmer(1, 1), 8);
        check.due("day(0), 0 would help", x.day(0), 0);
        check.due("left of 1", x.farmer(1, 1), 8);
    }

    private static void onlyWhoHasAskedMows() {
        check.of("each who has ASKED, whose own FIELD has something left, mows 1 of it");
        ScytheKeepers x = Check.told("f0 2 1 6 1;f0 2 20 6 0;");
        check.due("nobody has", x.day(1), 0);
        check.due("he ASKS on this DAY, and mows", x.day(1), 1);
        check.due("left of 0", x.farmer(0, 1), 1);
        check.due("left of 1", x.farmer(1, 1), 2);
    }

    private static void nothingLeftAheadOfThat() {
        check.of("whose own FIELD had nothing left ahead of that");
        ScytheKeepers x = Check.told("f0 1 0 6 1;f0 9 0 6 0;");
        check.due("0 mows his last: he does not help on this DAY", x.day(1), 2);
        check.due("left of 1", x.farmer(1, 1), 8);
        check.due("he helps", x.day(1), 2);
        check.due("left of 1", x.farmer(1, 1), 6);
    }

    private static void lowestWhoHasAsked() {
        check.of("mows 1 of the FIELD of the lowest one whose scythe hangs with him, who has ASKED");
        // 5 is done first; 0 never asks, 1 has nothing left, 2 and 3 have
        ScytheKeepers x = Check.told("f0 9 20 6 5;f0 1 0 6 5;f0 5 0 6 5;f0 5 0 6 5;f0 1 0 6 0;f0 1 0 6 0;");
        check.due("each for himself", x.day(1), 5);
        check.due("2 and 3 for themselves, 5 for 2", x.day(1), 3);
        int[] left = {9, 0, 2, 3, 0, 0};
        for (int f = 0; f < 6; f++) {
            check.due("left of " + f, x.farmer(f, 1), left[f]);
        }
        x.brings(0);
        check.due("0 has ASKED: he is the lowest", x.day(1), 4);
        check.due("left of 0", x.farmer(0, 1), 7);
        check.due("left of 2", x.farmer(2, 1), 1);
    }

    private static void somethingLeftYet() {
        check.of("and whose FIELD has something left yet");
        // on the second DAY 0 mows his own last: what is left for 2 is to help 1
        ScytheKeepers x = Check.told("f0 2 0 6 2;f0 5 0 6 2;f0 1 0 6 0;");
        check.due("each for himself", x.day(1), 3);
        check.due("2 helps 1", x.day(1), 3);
        check.due("left of 0", x.farmer(0, 1), 0);
        check.due("left of 1", x.farmer(1, 1), 2);
        check.due("1 mows, then 2 for him; 0 has nothing to do", x.day(1), 2);
        check.due("nothing is left", x.now(2), 0);
        check.due("nothing is below nothing", x.day(1), 0);
        check.due("nothing is left", x.now(2), 0);
    }

    private static void oneBehindTheOther() {
        check.of("(one behind the other, by numbers)");
        // 0 and 1 are done; each has one who is not, and both help on the same DAY
        ScytheKeepers x = Check.told("f0 1 0 6 3;f0 1 0 6 2;f0 9 0 6 1;f0 9 0 6 0;");
        check.due("each for himself", x.day(1), 4);
        check.due("0 helps 3, 1 helps 2", x.day(1), 4);
        check.due("left of 2", x.farmer(2, 1), 6);
        check.due("left of 3", x.farmer(3, 1), 6);
    }

    private static void whoseScytheHangsWithHim() {
        check.of("the lowest one whose scythe hangs with him");
        // 1 keeps nobody's scythe; it is his that hangs with 0
        ScytheKeepers x = Check.told("f0 9 0 6 2;f0 1 0 6 0;f0 9 0 6 0;");
        x.day(1);
        check.due("1 helps nobody", x.day(1), 2);
        check.due("FARMERS of number 0 are no others", x.farmer(0, 1), 7);
        ScytheKeepers y = Check.told("f0 9 20 6 1;f0 9 20 6 0;f0 1 0 6 0;");
        y.day(1);
        y.hangs(1, 2);
        y.brings(1);
        check.due("HUNG with him: he helps", y.day(1), 2);
        check.due("left of 1", y.farmer(1, 1), 7);
    }

    private static void dayIsOneMore() {
        check.of("DAY is 1 more.");
        ScytheKeepers x = new ScytheKeepers();
        for (int day = 1; day <= 100; day++) {
            x.day(day & 1);
            check.due("DAY", x.now(0), day);
        }
    }

    private static void mownFromNoneToSix() {
        check.of("A DAY: how much is mown on it.");
        ScytheKeepers x = Check.told("f0 1 0 6 5;f0 3 0 6 0;f0 2 0 6 1;f0 2 0 6 2;f0 2 0 6 3;f0 9 0 6 4;");
        check.due("all six", x.day(1), 6);
        check.due("all six, 0 for 1", x.day(1), 6);
        check.due("5 and 4, who helps him", x.day(1), 2);
        check.due("no FARMERS", new ScytheKeepers().day(1), 0);
    }

    private static void broughtDoes() {
        check.of("BROUGHT: one who has not ASKED does.");
        ScytheKeepers x = Check.told("f0 1 20 6 1;f0 9 20 1 0;f0 9 20 6 0;");
        x.brings(0);
        check.due("who has ASKED", x.now(1), 1);
        check.due("DAY", x.now(0), 0);
        check.due("nothing is mown by it", x.now(2), 19);
        check.due("others reckon with him: 1 ASKS on this DAY", x.day(1), 2);
        check.due("who has ASKED", x.now(1), 3);
        check.due("left of 0", x.farmer(0, 1), 0);
    }

    private static void broughtFromOneToSix() {
        check.of("BROUGHT: how many have ASKED.");
        ScytheKeepers x = Check.told("f0 1 20 6 1;f0 1 20 6 0;f0 1 20 6 0;f0 1 20 6 0;f0 1 20 6 0;f0 1 20 6 0;");
        for (int f = 5; f >= 0; f--) {
            check.due("brings(" + f + ")", x.brings(f), 6 - f);
        }
        check.due("who has ASKED", x.now(1), 63);
    }

    private static void broughtWhoHas() {
        check.of("BROUGHT: how many have ASKED. BAD; STATE: he has.");
        check.refused("brings(1), who was BROUGHT", Check::busy, x -> x.brings(1), STATE);
        check.refused("brings(0), who ASKED of himself", () -> {
            ScytheKeepers x = Check.told("f0 1 0 6 1;f0 1 20 6 0;");
            x.day(0);
            return x;
        }, x -> x.brings(0), STATE);
    }

    private static void broughtWhoThereIsNot() {
        check.of("BROUGHT: how many have ASKED. BAD;");
        check.refused("brings(3) of three", Check::busy, x -> x.brings(3), BAD);
        for (int f : Check.FAR_OFF) {
            check.refused("brings(" + f + ")", Check::busy, x -> x.brings(f), BAD);
        }
        check.refused("brings(0) of none", ScytheKeepers::new, x -> x.brings(0), BAD);
    }

    private static void hungTillThen() {
        check.of("HUNG: the KEEPER till then.");
        ScytheKeepers x = Check.told("f0 1 20 6 1;f0 1 20 6 0;f0 1 20 6 0;f0 1 20 6 0;f0 1 20 6 0;f0 1 20 6 0;");
        check.due("hangs(5, 4)", x.hangs(5, 4), 0);
        check.due("hangs(5, 0)", x.hangs(5, 0), 4);
        check.due("hangs(0, 5)", x.hangs(0, 5), 1);
        check.due("hangs(0, 1)", x.hangs(0, 1), 5);
        check.due("KEEPER of 5", x.farmer(5, 4), 0);
    }

    private static void hungWithHimself() {
        check.of("BAD (with himself, too)");
        check.refused("hangs(0, 0)", Check::busy, x -> x.hangs(0, 0), BAD);
        check.refused("hangs(2, 2)", Check::busy, x -> x.hangs(2, 2), BAD);
        check.refused("hangs(1, 1), who has ASKED", Check::busy, x -> x.hangs(1, 1), BAD);
    }

    private static void hungWhereItHangs() {
        check.of("STATE: he has ASKED, it hangs there.");
        check.refused("hangs(2, 0), as told", Check::busy, x -> x.hangs(2, 0), STATE);
        check.refused("hangs(0, 2), HUNG there", Check::busy, x -> x.hangs(0, 2), STATE);
        check.due("hangs(0, 1), where it hung once", Check.busy().hangs(0, 1), 2);
    }

    private static void hungByWhoHasAsked() {
        check.of("HUNG: the scythe of one who has not ASKED, at another KEEPER's (not himself).");
        check.refused("hangs(1, 2), who has ASKED", Check::busy, x -> x.hangs(1, 2), STATE);
        check.refused("hangs(1, 0), where it hangs", Check::busy, x -> x.hangs(1, 0), STATE);
        check.due("hangs(2, 1), with one who has", Check.busy().hangs(2, 1), 0);
    }

    private static void hungWhereThereIsNobody() {
        check.of("HUNG: the KEEPER till then. BAD");
        check.refused("hangs(0, 3) of three", Check::busy, x -> x.hangs(0, 3), BAD);
        check.refused("hangs(3, 0) of three", Check::busy, x -> x.hangs(3, 0), BAD);
        for (int f : Check.FAR_OFF) {
            check.refused("hangs(0, " + f + ")", Check::busy, x -> x.hangs(0, f), BAD);
            check.refused("hangs(" + f + ", 0)", Check::busy, x -> x.hangs(f, 0), BAD);
            check.refused("hangs(" + f + ", " + f + ")", Check::busy, x -> x.hangs(f, f), BAD);
        }
        check.refused("hangs(0, 1) of none", ScytheKeepers::new, x -> x.hangs(0, 1), BAD);
    }

    private static void badAheadOfState() {
        check.of("Refused, and nothing changes, the first of these: BAD (a number is not as told, or there is no such "
                + "thing), STATE (as told), FULL.");
        check.refused("hangs(1, 3), who has ASKED", Check::busy, x -> x.hangs(1, 3), BAD);
        check.refused("hangs(1, -1), who has ASKED", Check::busy, x -> x.hangs(1, -1), BAD);
    }

    private static void undoneTenAreKnown() {
        check.of("(10 are known, older ones are lost)");
        for (int days = 9; days <= 12; days++) {
            ScytheKeepers x = Check.told("f0 9 0 6 1;f0 9 0 6 0;");
            Check.days(x, 1, days);
            int known = Math.min(days, 10);
            for (int more = known - 1; more >= 0; more--) {
                check.due("undo() behind " + days, x.undo(), more);
                check.due("DAY", x.now(0), days - known + more);
            }
            check.due("undo() of what is lost", x.undo(), STATE);
            check.due("DAY", x.now(0), days - known);
            check.due("left", x.now(2), 18 - Math.min(18, 2 * (days - known)));
        }
    }

    private static void undoneAroundTheRow() {
        check.of("(10 are known, older ones are lost)");
        // what is UNDONE makes room again, wherever the row of ten stands
        ScytheKeepers x = Check.told("f0 9 20 6 1;f0 9 20 6 0;");
        int day = 0;
        int known = 0;
        for (int round = 0; round < 12; round++) {
            Check.days(x, 0, 4);
            day += 4;
            known = Math.min(10, known + 4);
            for (int i = 0; i < 3; i++) {
                known--;
                day--;
                check.due("undo()", x.undo(), known);
                check.due("DAY", x.now(0), day);
            }
        }
    }

    private static void undoneNotRefused() {
        check.of("UNDONE: the latest day(), brings(), hangs() that was not refused");
        ScytheKeepers x = Check.busy();
        x.day(2);
        x.brings(1);
        x.brings(9);
        x.hangs(0, 2);
        x.hangs(0, 0);
        x.hangs(1, 2);
        check.due("now(4)", x.now(4), 3);
        check.due("undo() of hangs(0, 2)", x.undo(), 2);
        check.due("KEEPER", x.farmer(0, 4), 1);
        check.due("undo() of day(1)", x.undo(), 1);
        check.due("DAY", x.now(0), 0);
        check.due("left of 1", x.farmer(1, 1), 6);
        check.due("undo() of brings(1)", x.undo(), 0);
        check.due("who has ASKED", x.now(1), 0);
        check.due("undo()", x.undo(), STATE);
    }

    private static void undoneOnlyTheseThree() {
        check.of("UNDONE: the latest day(), brings(), hangs() that was not refused");
        ScytheKeepers x = Check.busy();
        x.sees(1, 1, 1);
        x.forget();
        x.type('f');
        x.keep(1);
        x.rate(5, 0);
        x.start(0);
        x.hang(-1);
        check.due("now(4)", x.now(4), 3);
        check.due("undo()", x.undo(), 2);
        check.due("KEEPER", x.farmer(0, 4), 1);
        check.due("SEEN, forgotten as it is", x.count(1), 0);
        check.due("letters", x.count(2), 1);
        check.due("trace()", x.trace(), 110102);
        check.due("what is UNDONE can't be done again by undo()", x.undo(), 1);
        check.due("back(1)", x.back(1), 1);
        check.due("KEEPER of the IMAGE", x.farmer(0, 4), 2);
    }

    private static void undoneNone() {
        check.of("UNDONE: how many more may be. STATE: none.");
        check.refused("undo() of a new object", ScytheKeepers::new, ScytheKeepers::undo, STATE);
        check.refused("undo() of a new valley", () -> Check.told("f0 9 20 6 1;f0 9 20 6 0;"), ScytheKeepers::undo, STATE);
        ScytheKeepers x = Check.told("f0 9 20 6 1;f0 9 20 6 0;");
        x.brings(0);
        check.due("undo() of one", x.undo(), 0);
        check.due("undo() of none", x.undo(), STATE);
        check.due("who has ASKED", x.now(1), 0);
    }
}
