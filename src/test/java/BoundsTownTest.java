/** Boundary cases of a TOWN's text and of promise 4; each remark tells the document's sentence. */
public final class BoundsTownTest {
    private static final String PERSON = ";person 1 1 1";
    private static final String SEVEN = "town 1 5" + Calls.times(7, PERSON);

    public static void main(String[] args) {
        bytes400();
        clauses();
        gap();
        gapByDays();
        year();
        townOnceAndFirst();
        bench();
        benchOnce();
        withoutBench();
        person();
        twins();
        trial();
        inTheOrderTold();
        dayZero();
        inPlaceOfTheOne();
        emptyThen();
        faultLeavesAll();
        Calls.close();
    }

    /** "A TOWN is a text of at most 400 bytes:" */
    private static void bytes400() {
        String text = "town 1 5;person 7 8" + Calls.times(380, " ") + "9";
        YoungerBench b = Calls.townOf(text);
        Calls.due("400 bytes", text.length(), 400);
        Calls.due("the last byte counts", b.person(0, 2), 9);
        Calls.townReads("town 1 5" + Calls.times(392, " "), 0);
        Calls.townReads(Calls.times(392, " ") + "town 1 5", 0);
        Calls.townFails("town 1" + Calls.times(394, " "), 400, 0);
        Calls.townFails("town 1 5" + Calls.times(391, " ") + "!", 399, 0);
    }

    /**
     * "CLAUSE { ; CLAUSE }, 40 at most:" - the other limits leave 19, so that a 41st never is the first FAULT.
     */
    private static void clauses() {
        Calls.townFails("", 0, 0);
        Calls.townReads("town 1 5", 0);
        Calls.townFails("town 1 5;", 9, 0);
        Calls.townFails(";town 1 5", 0, 0);
        Calls.townFails("town 1 5 bench 0 1", 9, 0);
        Calls.townReads(SEVEN + ";bench 1 2" + Calls.times(4, ";twins 0 6") + Calls.times(6, ";case 6 1 1 0"), 7);
        Calls.townFails("town 1 5" + Calls.times(39, ";town"), 9, 4);
        Calls.townFails("town 1 5" + Calls.times(40, ";town"), 9, 4);
    }

    /** "town NUMBER NUMBER (GAP 1 to 99:" */
    private static void gap() {
        Calls.townFails("town 0 5", 5, 1);
        Calls.due("GAP 1", Calls.townOf("town 1 5").count(0), 1);
        Calls.due("GAP 99", Calls.townOf("town 99 5").count(0), 99);
        Calls.townFails("town 100 5", 5, 1);
        Calls.townFails("town", 4, 0);
        Calls.townFails("town ;", 5, 0);
        Calls.townFails("town -1 5", 5, 0);
    }

    /** "by so many days, or more, a judge is younger;" */
    private static void gapByDays() {
        YoungerBench b = Calls.townOf("town 99 50;person 110 0 0;person 12 0 0;person 11 0 0;person 10 0 0;case 0 1 1 1");
        Calls.due("by 98", b.can(0, 1, 1), 0);
        Calls.due("by 99", b.can(0, 2, 1), 1);
        Calls.due("by 100", b.can(0, 3, 1), 1);
        YoungerBench c = Calls.townOf("town 1 50;person 12 0 0;person 12 0 0;person 11 0 0;person 13 0 0;case 0 1 1 1");
        Calls.due("as old", c.can(0, 1, 1), 0);
        Calls.due("oneself", c.can(0, 0, 1), 0);
        Calls.due("by 1", c.can(0, 2, 1), 1);
        Calls.due("elder by 1", c.can(0, 3, 1), 0);
    }

    /** "YEAR 5 to 99: so many days has one;" */
    private static void year() {
        Calls.townFails("town 1 4", 7, 1);
        Calls.due("YEAR 5", Calls.townOf("town 1 5;person 1 0 0").person(0, 4), 4);
        Calls.due("YEAR 99", Calls.townOf("town 1 99;person 1 0 0").person(0, 4), 98);
        Calls.townFails("town 1 100", 7, 1);
        Calls.townFails("town 1", 6, 0);
        Calls.townFails("town 1 5 5", 9, 0);
    }

    /** "once, the first CLAUSE)" */
    private static void townOnceAndFirst() {
        Calls.townFails("town 1 5;town 1 5", 9, 4);
        Calls.townFails("town 1 5;person 1 1 1;town 1 5", 22, 4);
        Calls.townFails("person 1 1 1;town 1 5", 0, 4);
        Calls.townFails("bench 0 1", 0, 4);
        Calls.townFails("twins 0 1", 0, 4);
        Calls.townFails("case 0 1 1 1", 0, 4);
    }

    /** "bench NUMBER NUMBER (from which AGE to which one sits, in days, 0 to 9999, the last one not below the first;" */
    private static void bench() {
        Calls.townReads("town 1 5;bench 0 0", 0);
        Calls.townReads("town 1 5;bench 9999 9999", 0);
        Calls.townReads("town 1 5;bench 0 9999", 0);
        Calls.townFails("town 1 5;bench 10000 10000", 15, 1);
        Calls.townFails("town 1 5;bench 0 10000", 17, 1);
        Calls.townFails("town 1 5;bench 1 0", 17, 1);
        Calls.townFails("town 1 5;bench 9999 9998", 20, 1);
        Calls.townFails("town 1 5;bench 0", 16, 0);
        Calls.townFails("town 1 5;bench 0 0 0", 19, 0);
        YoungerBench b = Calls.townOf("town 1 90;bench 7 9;person 6 0 0;person 7 0 0;person 9 0 0;person 10 0 0");
        int[] sits = {0, 1, 1, 0};
        for (int p = 0; p < 4; p++) {
            Calls.due("sits " + p, b.person(p, 7), sits[p]);
        }
    }

    /** "once at most," */
    private static void benchOnce() {
        Calls.townFails("town 1 5;bench 0 1;bench 0 1", 19, 4);
        Calls.townFails("town 1 5;bench 0 1;person 1 1 1;bench 0 1", 32, 4);
        Calls.townReads("town 1 5;person 1 1 1;bench 0 1;person 1 1 1", 2);
    }

    /** "0 to 9999 without)" */
    private static void withoutBench() {
        YoungerBench b = Calls.townOf("town 1 7;person 9999 0 0;person 0 0 0");
        Calls.due("the first AGE", b.count(9), 0);
        Calls.due("the last AGE", b.count(10), 9999);
        Calls.due("at 9999 one sits", b.person(0, 7), 1);
        Calls.due("at 0 one sits", b.person(1, 7), 1);
        b.day();
        Calls.due("at 10000 one does not", b.person(0, 7), 0);
        Calls.town(b, "town 1 5;bench 3 4");
        Calls.town(b, "town 1 5");
        Calls.due("a former bench is gone: the first AGE", b.count(9), 0);
        Calls.due("a former bench is gone: the last AGE", b.count(10), 9999);
    }

    /** "person NUMBER NUMBER NUMBER (AGE on DAY 0, in days, 0 to 9999; WIT 0 to 9; SWEETS 0 to 9)" */
    private static void person() {
        YoungerBench b = Calls.townOf("town 1 5;person 0 0 0;person 9999 9 9");
        for (int what = 0; what < 3; what++) {
            Calls.due("the least", b.person(0, what), 0);
            Calls.due("the most", b.person(1, what), what == 0 ? 9999 : 9);
        }
        Calls.townFails("town 1 5;person 10000 0 0", 16, 1);
        Calls.townFails("town 1 5;person 0 10 0", 18, 1);
        Calls.townFails("town 1 5;person 0 0 10", 20, 1);
        Calls.townFails("town 1 5;person", 15, 0);
        Calls.townFails("town 1 5;person 0", 17, 0);
        Calls.townFails("town 1 5;person 0 0", 19, 0);
        Calls.townFails("town 1 5;person 0 0 0 0", 22, 0);
    }

    /** "twins NUMBER NUMBER (two PEOPLE that were told)" */
    private static void twins() {
        String two = "town 1 5;person 1 1 1;person 1 1 1";
        Calls.townFails("town 1 5;twins 0 1", 15, 1);
        Calls.townFails("town 1 5;person 1 1 1;twins 0 1;person 1 1 1", 30, 1);
        Calls.townFails(two + ";twins 2 0", 41, 1);
        Calls.townFails(two + ";twins 0 2", 43, 1);
        Calls.townFails(two + ";twins 0 0", 43, 1);
        Calls.townFails(two + ";twins 1 1", 43, 1);
        Calls.townFails(two + ";twins 1", 42, 0);
        Calls.townFails(two + ";twins 1 0 0", 45, 0);
        YoungerBench b = Calls.townOf(SEVEN + ";twins 6 0;twins 0 6;twins 1 0");
        int[] bits = {64 + 2, 1, 0, 0, 0, 0, 1};
        for (int p = 0; p < 7; p++) {
            Calls.due("twins of " + p, b.person(p, 3), bits[p]);
        }
        Calls.town(b, SEVEN + Calls.times(4, ";twins 4 5"));
        int[] others = {0, 0, 0, 0, 32, 16, 0};
        for (int p = 0; p < 7; p++) {
            Calls.due("of another TOWN, twins of " + p, b.person(p, 3), others[p]);
        }
        Calls.due("four of yet another one", Calls.town(b, SEVEN + Calls.times(4, ";twins 4 5")), 7);
    }

    /**
     * "case NUMBER NUMBER NUMBER NUMBER (who did it, a PERSON that was told; GRAVITY 1 to 9; LENGTH 1 to 9 days; the DAY
     * from which on it can be heard, 0 to 99)."
     */
    private static void trial() {
        String one = "town 1 5;person 1 1 1";
        Calls.townFails("town 1 5;case 0 1 1 0;person 1 1 1", 14, 1);
        Calls.townFails(one + ";case 1 1 1 0", 27, 1);
        Calls.townFails(one + ";case 0 0 1 0", 29, 1);
        Calls.townFails(one + ";case 0 10 1 0", 29, 1);
        Calls.townFails(one + ";case 0 1 0 0", 31, 1);
        Calls.townFails(one + ";case 0 1 10 0", 31, 1);
        Calls.townFails(one + ";case 0 1 1 100", 33, 1);
        Calls.townFails(one + ";case 0 1 1", 32, 0);
        Calls.townFails(one + ";case 0 1 1 0 0", 35, 0);
        YoungerBench b = Calls.townOf(one + ";case 0 1 1 0;person 1 1 1;case 1 9 9 99");
        int[][] due = {{0, 1, 1, 0}, {1, 9, 9, 99}};
        for (int i = 0; i < 8; i++) {
            Calls.due("trial(" + i / 4 + "," + i % 4 + ")", b.trial(i / 4, i % 4), due[i / 4][i % 4]);
        }
    }

    /** "PEOPLE 0 to 6, TWINS 0 to 3, CASES 0 to 5, in the order told." */
    private static void inTheOrderTold() {
        StringBuilder text = new StringBuilder("town 1 5");
        for (int i = 0; i < 7; i++) {
            text.append(";person ").append(20 + i).append(" 0 0");
        }
        text.append(";twins 0 1;twins 1 2;twins 2 3;twins 3 4");
        for (int i = 0; i < 6; i++) {
            text.append(";case ").append(6 - i).append(" 1 1 ").append(30 + i);
        }
        YoungerBench b = Calls.townOf(text.toString());
        for (int i = 0; i < 7; i++) {
            Calls.due("PERSON " + i, b.person(i, 0), 20 + i);
        }
        for (int i = 0; i < 6; i++) {
            Calls.due("CASE " + i, b.trial(i, 0), 6 - i);
            Calls.due("CASE " + i, b.trial(i, 3), 30 + i);
        }
        Calls.due("no PERSON 7", b.person(7, 0), -1);
        Calls.due("no CASE 6", b.trial(6, 0), -2);
        Calls.due("the fourth TWINS count", b.person(4, 3), 8);
        Calls.townFails(SEVEN + PERSON, SEVEN.length() + 1, 4);
        Calls.townFails(SEVEN + Calls.times(5, ";twins 0 1"), SEVEN.length() + 41, 4);
        Calls.townFails(SEVEN + Calls.times(7, ";case 0 1 1 1"), SEVEN.length() + 79, 4);
    }

    /** "It is DAY 0; nothing is heard yet." */
    private static void dayZero() {
        YoungerBench b = Towns.four();
        b.hear(2, 3);
        b.day();
        b.hear(2, 3);
        b.hear(0, 1);
        b.teach(2);
        Calls.town(b, Towns.FOUR);
        Calls.due("DAY", b.count(6), 0);
        Calls.due("heard", b.count(7), 0);
        Calls.due("ruled", b.count(8), 0);
        Calls.due("who hears it", b.trial(0, 4), -1);
        Calls.due("days to go", b.trial(0, 5), 0);
        Calls.due("the CASE they hear", b.person(1, 5), -1);
        Calls.stays("the TOWN told again", Calls.all(Towns.four()), b);
    }

    /**
     * Promise 4: "is the TOWN in place of the one there was (DAY 0, no FACTS, nothing to be UNDONE; the RULE IN FORCE and
     * x stay): how many PEOPLE;"
     */
    private static void inPlaceOfTheOne() {
        YoungerBench b = Calls.ruledBy(Towns.FOUR, "right 7");
        b.seed(99);
        b.fact(0, 0, 1);
        b.image(3);
        b.hear(2, 1);
        b.day();
        b.teach(2);
        Calls.due("seven PEOPLE", Calls.town(b, SEVEN), 7);
        Calls.due("no PEOPLE", Calls.town(b, "town 2 6"), 0);
        int[] due = {2, 6, 0, 0, 1, 0, 0, 0, 0, 0, 9999, 0, 0, 99, 0};
        for (int what = 0; what < due.length; what++) {
            Calls.due("count(" + what + ")", b.count(what), due[what]);
        }
        Calls.due("nothing to be UNDONE", b.undo(), -1);
        Calls.due("no PERSON of the former one", b.person(0, 0), -1);
        Calls.due("no CASE of the former one", b.trial(0, 0), -2);
        Calls.due("the IMAGE is there still", b.back(3), 0);
        Calls.due("with its PEOPLE", b.count(2), 4);
    }

    /** Promise 4: "The TAPE, which is empty then," */
    private static void emptyThen() {
        YoungerBench b = new YoungerBench();
        Calls.town(b, "town 1 5");
        Calls.due("behind a TOWN", b.count(14), 0);
        Calls.town(b, "town 1 4");
        Calls.due("behind a FAULT", b.count(14), 0);
        Calls.due("nothing is left of it", b.town(), Calls.fault(0, 0));
        Calls.town(b, SEVEN + Calls.times(400 - SEVEN.length(), " "));
        Calls.due("behind 400 bytes", b.feed(0, 0, 0, 0, 0), 20);
    }

    /** Promise 4: "-2 - its FAULT, and all stays." */
    private static void faultLeavesAll() {
        YoungerBench b = Calls.ruledBy(Towns.FOUR, "right 7");
        b.seed(99);
        b.fact(0, 0, 1);
        b.hear(0, 1);
        b.day();
        b.teach(2);
        String was = Calls.all(b);
        Calls.due("the least FAULT", Calls.town(b, "x"), -3);
        Calls.due("behind twins and a CASE", Calls.town(b, "town 9 9;bench 1 2;person 1 1 1;person 1 1 1;twins 0 1;case 1 1 1 1;"),
                Calls.fault(68, 0));
        Calls.due("of a NUMBER", Calls.town(b, "town 9 100"), Calls.fault(7, 1));
        Calls.stays("town", was, b);
        Calls.due("a day to go", b.day(), 1);
        Calls.due("ruled", b.trial(0, 7), 7);
        Calls.due("ACTS", b.undo(), 3);
    }
}
