/** Boundary cases of SOONEST, BENCHES and LESSON and of promises 15, 16 and 20; each remark tells the document's sentence. */
public final class BoundsBenchesTest {
    /** One judge, as RIGHT as 61 in each CASE of GRAVITY 1. */
    private static final String ONE = "town 1 90;person 85 0 0;person 10 3 0";
    /** Two judges, as RIGHT as 61 in each CASE of GRAVITY 1. */
    private static final String TWO = "town 1 90;person 85 0 0;person 11 3 0;person 10 3 0";

    public static void main(String[] args) {
        nothingChanges();
        soonestOf100Days();
        soonestWhatIsHeard();
        soonestAnswer();
        soonestWithoutThese();
        fourOpenOnes();
        firstOf100Days();
        noOtherOnTheseDays();
        heardNowTillItEnds();
        greatestRight();
        byTheDayEachBegins();
        leastLastDay();
        firstRow();
        placesOfARow();
        notAllCanBeHeard();
        moreThanFour();
        othersAreNone();
        ofNoCases();
        lessonGreatest();
        lessonLeast();
        lessonWhats();
        lessonNobody();
        lessonMoreThanFour();
        lessonOthers();
        Calls.close();
    }

    private static void row(String of, YoungerBench b, int... due) {
        for (int what = 0; what < 14; what++) {
            Calls.due(of + ": benches(" + what + ")", b.benches(what), due[what]);
        }
    }

    /** "(By what is asked nothing changes.)" */
    private static void nothingChanges() {
        YoungerBench b = Calls.ruledBy(Towns.FOUR, "right wit*5+day");
        b.hear(0, 1);
        b.day();
        b.fact(1, 0, 1);
        b.seed(7);
        String was = Calls.all(b);
        for (int what = 0; what < 14; what++) {
            b.benches(what);
            b.lesson(what % 2);
            b.down(what % 3, what % 8);
            b.commit(0, 1, 1, 60, what % 2);
            b.clement(what % 3, what % 4);
            b.who(what % 3, what % 4);
            b.look(what % 3, what % 2);
            b.years(10, 99, what % 2);
            b.can(0, 1, what);
            b.right(what % 3, what % 4);
            b.soonest(what % 3, what % 4);
        }
        b.above(60);
        Calls.stays("asking", was, b);
    }

    /** "SOONEST of a CASE before a judge: the first DAY from now on (100 are looked at) from which on they CAN hear it" */
    private static void soonestOf100Days() {
        YoungerBench b = Calls.townOf("town 1 50;bench 111 200;person 900 0 0;person 11 0 0;person 12 0 0;person 111 0 0;case 0 1 1 0");
        Calls.due("now", b.soonest(0, 3), 0);
        Calls.due("the 100th DAY", b.soonest(0, 2), 99);
        Calls.due("the 101st DAY", b.soonest(0, 1), -2);
        b.day();
        Calls.due("not a DAY that went by", b.soonest(0, 3), 1);
        Calls.due("the 100th DAY from now on", b.soonest(0, 1), 100);
        YoungerBench c = Calls.townOf(ONE + ";case 0 1 1 99");
        Calls.due("from DAY 99 on", c.soonest(0, 1), 99);
    }

    /** "(what is heard now, or is ruled already, not asked)." */
    private static void soonestWhatIsHeard() {
        YoungerBench b = Calls.townOf(TWO + ";case 0 1 2 0;case 0 1 1 0");
        b.hear(0, 2);
        Calls.due("heard now", b.soonest(0, 1), 0);
        Calls.due("who hears it", b.soonest(0, 2), 0);
        Calls.due("who hears another one", b.soonest(1, 2), 0);
        Calls.days(b, 2);
        Calls.due("ruled by them", b.soonest(0, 2), 2);
        Calls.due("ruled by a younger one", b.soonest(0, 1), 2);
    }

    /** Promise 15: "SOONEST; -2: on none;" */
    private static void soonestAnswer() {
        YoungerBench b = Towns.four();
        Calls.due("DAY 0", b.soonest(0, 1), 0);
        Calls.due("DAY 1", b.soonest(1, 3), 1);
        Calls.due("the accused on none", b.soonest(0, 0), -2);
        Calls.due("a twin on none", b.soonest(1, 2), -2);
    }

    /** Promise 15: "NONE without these." */
    private static void soonestWithoutThese() {
        YoungerBench b = Towns.four();
        int[] wrong = {-1, 4, 7, Integer.MAX_VALUE, Integer.MIN_VALUE};
        for (int i : wrong) {
            Calls.due("judge " + i, b.soonest(0, i), -1);
            Calls.due("CASE " + i, b.soonest(i, 1), -1);
        }
        Calls.due("CASE 3", b.soonest(3, 1), -1);
        Calls.due("without a TOWN", new YoungerBench().soonest(0, 0), -1);
    }

    /** "BENCHES: all CASES that are neither heard nor ruled now (4 at most):" */
    private static void fourOpenOnes() {
        YoungerBench b = Calls.townOf(TWO + Calls.times(6, ";case 0 1 1 0"));
        Calls.due("six", b.benches(0), -3);
        b.hear(0, 1);
        Calls.due("five, one is heard", b.benches(0), -3);
        b.day();
        Calls.due("five, one is ruled", b.benches(0), -3);
        b.hear(5, 1);
        row("four, one is ruled, one is heard", b, 244, 3, 1, 2, 3, 4, 1, 1, 2, 2, 2, 3, 1, 2);
        b.hear(0, 2);
        Calls.due("four, one under appeal", b.benches(0), 244);
        Calls.due("two before each, from tomorrow on", b.benches(1), 3);
        b.undo();
        b.undo();
        Calls.due("five again", b.benches(0), -3);
        YoungerBench zero = Calls.townOf("town 1 90;person 10 3 0;person 85 0 0" + Calls.times(5, ";case 1 1 1 0"));
        zero.hear(2, 0);
        row("four, one is heard by PERSON 0", zero, 244, 4, 0, 1, 3, 4, 0, 0, 0, 0, 1, 2, 3, 4);
    }

    /**
     * "rows of them, one behind the other, each before a judge: each begins on the first DAY from now on (100 looked at)
     * from which on that judge CAN hear it,"
     */
    private static void firstOf100Days() {
        YoungerBench b = Calls.townOf("town 1 50;bench 111 200;person 900 0 0;person 12 3 0;case 0 1 1 0");
        row("the 100th DAY", b, 61, 99, 0, -2, -2, -2, 1, -2, -2, -2, 99, -2, -2, -2);
        YoungerBench c = Calls.townOf("town 1 50;bench 111 200;person 900 0 0;person 11 3 0;case 0 1 1 0");
        Calls.due("the 101st DAY", c.benches(0), -2);
        c.day();
        Calls.due("the 100th from now on", c.benches(10), 100);
        YoungerBench two = Calls.townOf("town 1 50;bench 111 200;person 900 0 0;person 12 3 0;case 0 1 1 0;case 0 1 1 0");
        Calls.due("behind the 100th DAY another one can't begin", two.benches(0), -2);
        two.day();
        row("a day on it can", two, 122, 100, 0, 1, -2, -2, 1, 1, -2, -2, 99, 100, -2, -2);
        YoungerBench late = Calls.townOf(ONE + ";case 0 1 9 99");
        row("it may end behind the 100th", late, 61, 107, 0, -2, -2, -2, 1, -2, -2, -2, 99, -2, -2, -2);
    }

    /** "and on none of whose days the judge hears another one" */
    private static void noOtherOnTheseDays() {
        YoungerBench fits = Calls.townOf(ONE + ";case 0 1 2 3;case 0 1 3 0");
        row("three days ahead of DAY 3", fits, 122, 4, 0, 1, -2, -2, 1, 1, -2, -2, 3, 0, -2, -2);
        YoungerBench not = Calls.townOf(ONE + ";case 0 1 2 3;case 0 1 4 0");
        row("four days are not", not, 122, 5, 1, 0, -2, -2, 1, 1, -2, -2, 0, 4, -2, -2);
        YoungerBench behind = Calls.townOf(ONE + ";case 0 1 9 0;case 0 1 9 0;case 0 1 9 0;case 0 1 9 0");
        row("each on the day behind", behind, 244, 35, 0, 1, 2, 3, 1, 1, 1, 1, 0, 9, 18, 27);
        YoungerBench between = Calls.townOf(ONE + ";case 0 1 1 0;case 0 1 1 2;case 0 1 1 0;case 0 1 1 0");
        row("a gap of one day", between, 244, 3, 0, 1, 2, 3, 1, 1, 1, 1, 0, 2, 1, 3);
        YoungerBench others = Calls.townOf(TWO + ";case 0 1 9 0;case 0 1 9 0");
        row("another judge is free", others, 122, 8, 0, 1, -2, -2, 1, 2, -2, -2, 0, 0, -2, -2);
    }

    /** "(what is heard now, too, till it ends):" */
    private static void heardNowTillItEnds() {
        YoungerBench b = Calls.townOf(ONE + ";case 0 1 9 0;case 0 1 2 0");
        b.hear(0, 1);
        Calls.due("nine days to go", b.benches(10), 9);
        Calls.days(b, 8);
        Calls.due("one day to go", b.benches(10), 9);
        Calls.due("its last day", b.benches(1), 10);
        b.day();
        Calls.due("none to go", b.benches(10), 9);
        b.day();
        Calls.due("from now on", b.benches(10), 10);
        YoungerBench c = Calls.townOf("town 1 90;person 85 0 0;person 11 9 0;person 10 3 0;case 0 1 1 0;case 0 1 1 0");
        c.hear(0, 1);
        row("waits for the better one", c, 91, 1, 1, -2, -2, -2, 1, -2, -2, -2, 1, -2, -2, -2);
        c.day();
        c.hear(0, 2);
        row("an appeal binds the other one alone", c, 91, 1, 1, -2, -2, -2, 1, -2, -2, -2, 1, -2, -2, -2);
    }

    /** "that with the greatest RIGHT together" */
    private static void greatestRight() {
        // as RIGHT as 51 and 52: one more beats an end nine days sooner
        YoungerBench b = Calls.townOf("town 1 90;person 85 0 0;person 11 1 0;person 10 3 3;case 0 1 9 0;case 0 1 9 0");
        row("one more", b, 104, 17, 0, 1, -2, -2, 2, 2, -2, -2, 0, 9, -2, -2);
        YoungerBench zero = Calls.townOf("town 1 90;person 85 0 0;person 11 0 9;case 0 9 1 0");
        row("0 is RIGHT, too", zero, 0, 0, 0, -2, -2, -2, 1, -2, -2, -2, 0, -2, -2, -2);
        YoungerBench most = Calls.ruledBy(TWO + Calls.times(4, ";case 0 1 1 0"), "right 100");
        Calls.due("four times 100", most.benches(0), 400);
    }

    /** "(by the DAY each begins; WORD ruled as now);" */
    private static void byTheDayEachBegins() {
        YoungerBench b = Calls.ruledBy(ONE + ";case 0 1 3 0;case 0 2 2 5", "right day*gravity*10+ruled*7");
        row("days 0 and 5", b, 100, 6, 0, 1, -2, -2, 1, 1, -2, -2, 0, 5, -2, -2);
        YoungerBench c = Calls.ruledBy(TWO + Calls.times(3, ";case 0 1 1 0"), "right ruled*7");
        c.hear(0, 2);
        Calls.due("ruled none yet", c.benches(0), 0);
        c.day();
        row("ruled one, in the second CASE, too", c, 14, 2, 1, 2, -2, -2, 2, 2, -2, -2, 1, 2, -2, -2);
        YoungerBench never = Calls.ruledBy(TWO + Calls.times(3, ";case 0 1 1 0"), "right 5+appeal*9");
        never.hear(0, 2);
        never.day();
        Calls.due("these were never ruled", never.benches(0), 10);
    }

    /** "of several with the least last day (on which something is heard)," */
    private static void leastLastDay() {
        YoungerBench b = Calls.townOf(TWO + ";case 0 1 1 0;case 0 1 2 0;case 0 1 3 0");
        row("three days each", b, 183, 2, 0, 1, 2, -2, 1, 1, 2, -2, 0, 1, 0, -2);
        YoungerBench late = Calls.townOf(TWO + ";case 0 1 1 9;case 0 1 5 0;case 0 1 5 0");
        row("as late as it must be", late, 183, 9, 0, 1, 2, -2, 1, 1, 2, -2, 9, 0, 0, -2);
        YoungerBench now = Calls.townOf(TWO + ";case 0 1 9 0;case 0 1 2 0");
        now.hear(0, 1);
        row("of the row", now, 61, 1, 1, -2, -2, -2, 2, -2, -2, -2, 0, -2, -2, -2);
    }

    /** "of several the first (row of CASES, then of judges)." */
    private static void firstRow() {
        YoungerBench b = Calls.townOf(TWO + ";case 0 1 1 0");
        Calls.due("the first judge", b.benches(6), 1);
        YoungerBench c = Calls.townOf(TWO + ";case 0 1 1 0;case 0 1 1 0");
        row("the first row, the first judges", c, 122, 0, 0, 1, -2, -2, 1, 2, -2, -2, 0, 0, -2, -2);
        YoungerBench d = Calls.townOf("town 1 90;person 85 0 0;person 11 3 0;person 10 3 0;person 84 0 0;twins 0 1;twins 3 2;"
                + "case 0 1 1 0;case 3 1 1 0");
        row("the row of CASES ahead of the judges", d, 122, 0, 0, 1, -2, -2, 2, 1, -2, -2, 0, 0, -2, -2);
        YoungerBench first = Calls.townOf("town 1 90;person 10 3 0;person 85 0 0;case 1 1 1 0");
        Calls.due("PERSON 0", first.benches(6), 0);
        YoungerBench last = Calls.townOf(ONE + ";case 0 1 5 14;case 0 1 5 9;case 0 1 5 4;case 0 1 5 0");
        row("the last row of all, if the others end later", last, 244, 19, 3, 2, 1, 0, 1, 1, 1, 1, 0, 5, 10, 15);
        YoungerBench both = Calls.townOf("town 1 90;bench 0 70;person 80 0 0;person 10 3 0;person 11 3 0;person 81 0 0;twins 0 2;"
                + "twins 3 1;case 0 1 4 4;case 3 1 4 4;case 0 1 5 0;case 3 1 5 0");
        row("0 and 2 before judge 1, 1 and 3 before judge 2, the later one first", both, 244, 8, 2, 0, 3, 1, 1, 1, 2, 2, 0, 5, 0, 5);
    }

    /**
     * Promise 16: "BENCHES what 0: RIGHT, 1: the last day, 2 to 5: the CASE in that place less 2, 6 to 9: its judge, 10 to
     * 13: the DAY it begins (-2: so many there are not);"
     */
    private static void placesOfARow() {
        String town = ONE;
        int[][] due = {{61, 0, 0, -2, -2, -2, 1, -2, -2, -2, 0, -2, -2, -2}, {122, 1, 0, 1, -2, -2, 1, 1, -2, -2, 0, 1, -2, -2},
            {183, 2, 0, 1, 2, -2, 1, 1, 1, -2, 0, 1, 2, -2}, {244, 3, 0, 1, 2, 3, 1, 1, 1, 1, 0, 1, 2, 3}};
        for (int many = 1; many <= 4; many++) {
            town = town + ";case 0 1 1 0";
            row(many + " of them", Calls.townOf(town), due[many - 1]);
        }
    }

    /** Promise 16: "-2: not all can be heard;" */
    private static void notAllCanBeHeard() {
        YoungerBench b = Calls.townOf(ONE + ";case 0 1 1 0;case 1 1 1 0");
        for (int what = 0; what < 14; what++) {
            Calls.due("benches(" + what + ")", b.benches(what), -2);
        }
        b.hear(0, 1);
        b.day();
        Calls.due("the one that is left can't", b.benches(0), -2);
        Calls.due("before nobody", Calls.townOf("town 1 5;person 1 1 1;case 0 1 1 0").benches(0), -2);
    }

    /** Promise 16: "-3: more than 4." */
    private static void moreThanFour() {
        YoungerBench b = Calls.townOf(ONE + Calls.times(5, ";case 0 1 1 0"));
        YoungerBench never = Calls.townOf(ONE + Calls.times(6, ";case 1 1 1 0"));
        for (int what = 0; what < 14; what++) {
            Calls.due("five: benches(" + what + ")", b.benches(what), -3);
            Calls.due("six that nobody can hear: benches(" + what + ")", never.benches(what), -3);
        }
    }

    /** Promise 16: "NONE for others, or without a TOWN;" */
    private static void othersAreNone() {
        int[] wrong = {-1, 14, Integer.MAX_VALUE, Integer.MIN_VALUE};
        YoungerBench[] towns = {Towns.four(), Calls.townOf("town 1 5"), Calls.townOf(ONE + Calls.times(5, ";case 0 1 1 0")),
            Calls.townOf(ONE + ";case 1 1 1 0"), new YoungerBench()};
        for (YoungerBench b : towns) {
            for (int what : wrong) {
                Calls.due("benches(" + what + ")", b.benches(what), -1);
            }
        }
        for (int what = 0; what < 14; what++) {
            Calls.due("without a TOWN: benches(" + what + ")", new YoungerBench().benches(what), -1);
        }
    }

    /** Promise 16: "of no CASES 0, of what 1 NONE." */
    private static void ofNoCases() {
        int[] due = {0, -1, -2, -2, -2, -2, -2, -2, -2, -2, -2, -2, -2, -2};
        row("no CASES, no PEOPLE", Calls.townOf("town 1 5"), due);
        row("no CASES", Calls.townOf(ONE), due);
        YoungerBench b = Calls.townOf(ONE + ";case 0 1 2 0");
        b.hear(0, 1);
        row("all are heard", b, due);
        Calls.days(b, 2);
        row("all are ruled", b, due);
    }

    /** "LESSON: whom to TEACH now so that the RIGHT of BENCHES together is greatest;" */
    private static void lessonGreatest() {
        // 66 and 61, then 71: to teach the second one is better by 5
        YoungerBench b = Calls.townOf("town 1 90;person 85 0 0;person 11 3 0;person 10 4 0;case 0 1 1 0;case 0 1 1 0");
        Calls.due("who", b.lesson(0), 2);
        Calls.due("how much", b.lesson(1), 142);
        YoungerBench wise = Calls.townOf("town 1 90;person 85 9 0;person 11 8 0;person 10 9 0;case 0 1 1 0");
        Calls.due("who has 9 can't be taught", wise.lesson(0), 1);
        Calls.due("how much", wise.lesson(1), 91);
        YoungerBench worse = Calls.ruledBy(TWO + ";case 0 1 1 0;case 0 1 9 0", "right 50-wit");
        Calls.due("where WIT does harm, one who does not judge", worse.lesson(0), 0);
        Calls.due("how much", worse.lesson(1), 94);
    }

    /** "of several the least; how much it is then." */
    private static void lessonLeast() {
        YoungerBench b = Calls.townOf(TWO + ";case 0 1 1 0");
        Calls.due("1 or 2", b.lesson(0), 1);
        Calls.due("how much", b.lesson(1), 66);
        YoungerBench each = Calls.townOf("town 1 90;person 85 9 0;person 11 3 0;person 10 3 0;person 85 9 0;twins 0 2;twins 3 1;"
                + "case 0 1 1 0;case 3 1 1 0");
        Calls.due("1 for CASE 0 or 2 for CASE 1", each.lesson(0), 1);
        Calls.due("how much", each.lesson(1), 127);
        YoungerBench none = Calls.townOf(TWO);
        Calls.due("of no CASES the least of all", none.lesson(0), 0);
        Calls.due("of no CASES 0", none.lesson(1), 0);
        YoungerBench zero = Calls.townOf("town 1 90;person 85 9 0;person 11 0 9;case 0 9 1 0");
        Calls.due("RIGHT 0 all the same", zero.lesson(0), 1);
        Calls.due("0 is RIGHT, too", zero.lesson(1), 0);
        YoungerBench held = Calls.ruledBy(TWO + ";case 0 1 1 0", "right 100+wit");
        Calls.due("all the same 100", held.lesson(0), 0);
        Calls.due("held to 100", held.lesson(1), 100);
    }

    /** Promise 20: "LESSON what 0: who, 1: how much;" */
    private static void lessonWhats() {
        YoungerBench b = Calls.townOf("town 1 90;person 11 3 0;person 85 0 0;case 1 1 1 0");
        Calls.due("who", b.lesson(0), 0);
        Calls.due("how much", b.lesson(1), 66);
        YoungerBench seven = Calls.townOf("town 1 90" + Calls.times(6, ";person 85 9 0") + ";person 11 3 0;case 0 1 1 0");
        Calls.due("PERSON 6", seven.lesson(0), 6);
        Calls.due("WIT stays", seven.person(6, 1), 3);
    }

    /** Promise 20: "-2: nobody can be taught, or not all can be heard then;" */
    private static void lessonNobody() {
        YoungerBench[] towns = {Calls.townOf("town 1 5"), Calls.townOf("town 1 90;person 85 9 0;person 10 9 0;case 0 1 1 0"),
            Calls.townOf("town 1 90;person 85 9 0"), Calls.townOf(ONE + ";case 1 1 1 0"), Calls.townOf(ONE + ";case 0 1 1 0;case 1 1 1 0")};
        for (YoungerBench b : towns) {
            Calls.due("who", b.lesson(0), -2);
            Calls.due("how much", b.lesson(1), -2);
        }
    }

    /** Promise 20: "-3: more than 4 CASES." */
    private static void lessonMoreThanFour() {
        YoungerBench b = Calls.townOf(ONE + Calls.times(5, ";case 0 1 1 0"));
        Calls.due("five: who", b.lesson(0), -3);
        Calls.due("five: how much", b.lesson(1), -3);
        b.hear(0, 1);
        Calls.due("four: who", b.lesson(0), 1);
        Calls.due("four: how much", b.lesson(1), 264);
    }

    /** Promise 20: "NONE for others, or without a TOWN." */
    private static void lessonOthers() {
        int[] wrong = {-1, 2, Integer.MAX_VALUE, Integer.MIN_VALUE};
        for (int what : wrong) {
            Calls.due("lesson(" + what + ")", Towns.four().lesson(what), -1);
            Calls.due("more than 4: lesson(" + what + ")", Calls.townOf(ONE + Calls.times(5, ";case 0 1 1 0")).lesson(what), -1);
            Calls.due("without a TOWN: lesson(" + what + ")", new YoungerBench().lesson(what), -1);
        }
        Calls.due("without a TOWN", new YoungerBench().lesson(0), -1);
        Calls.due("without a TOWN", new YoungerBench().lesson(1), -1);
    }
}
