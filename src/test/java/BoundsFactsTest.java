/** Boundary cases of FACTS, WHO and LOOK and of promises 22 to 24; each remark tells the document's sentence. */
public final class BoundsFactsTest {
    /** Judge 1 CAN on each of the DAYS 0 to 60, at 100 to 160, with WIT 3, as RIGHT as 61. */
    private static final String ONE = "town 1 99;person 900 0 0;person 100 3 0;case 0 1 1 0;case 0 1 1 0";

    public static void main(String[] args) {
        tenFacts();
        factsOfAge();
        factsOfWit();
        factsOfDay();
        factsOfRight();
        days0To60();
        allFactsOfIt();
        asNow();
        firstByJudges();
        whoAsBits();
        lookParts();
        lookSeveral();
        factTold();
        factNone();
        factWithoutThese();
        whoAnswers();
        whoWithoutThese();
        lookAnswers();
        lookNone();
        lookWithoutThese();
        Calls.close();
    }

    private static void who(String of, YoungerBench b, int many, int judge, int day, int bits) {
        int[] due = {many, judge, day, bits};
        for (int what = 0; what < 4; what++) {
            Calls.due(of + ": who(0," + what + ")", b.who(0, what), due[what]);
        }
    }

    private static void look(String of, YoungerBench b, int which, int many) {
        Calls.due(of + ": which", b.look(0, 0), which);
        Calls.due(of + ": how many", b.look(0, 1), many);
    }

    /** How many judges and DAYS are left by one FACT. */
    private static void left(int what, int number, int due) {
        YoungerBench b = Calls.townOf(ONE);
        b.fact(0, what, number);
        Calls.due("FACT " + what + ", " + number, b.who(0, 0), due);
    }

    /** "FACTS 0 to 9, told, of a CASE:" */
    private static void tenFacts() {
        YoungerBench b = Calls.townOf(ONE);
        for (int i = 0; i < 9; i++) {
            Calls.due("FACT " + i, b.fact(0, 4, 0), i + 1);
        }
        Calls.due("FACT 9", b.fact(0, 4, 60), 10);
        who("the tenth counts", b, 1, 1, 60, 2);
        Calls.due("an eleventh", b.fact(0, 4, 61), -2);
        who("the eleventh does not", b, 1, 1, 60, 2);
        Calls.due("FACTS", b.count(11), 10);
    }

    /** "what 0: the judge's AGE when it began was at least so much, 1: at most;" */
    private static void factsOfAge() {
        left(0, 0, 61);
        left(0, 100, 61);
        left(0, 101, 60);
        left(0, 160, 1);
        left(0, 161, 0);
        left(0, 9999, 0);
        left(1, 0, 0);
        left(1, 99, 0);
        left(1, 100, 1);
        left(1, 159, 60);
        left(1, 160, 61);
        left(1, 9999, 61);
    }

    /** "2: their WIT is at least so much, 3: at most;" */
    private static void factsOfWit() {
        left(2, 0, 61);
        left(2, 3, 61);
        left(2, 4, 0);
        left(3, 2, 0);
        left(3, 3, 61);
        left(3, 9999, 61);
    }

    /** "4: it began on a DAY not before that one, 5: not behind it;" */
    private static void factsOfDay() {
        left(4, 0, 61);
        left(4, 1, 60);
        left(4, 60, 1);
        left(4, 61, 0);
        left(5, 0, 1);
        left(5, 59, 60);
        left(5, 60, 61);
        left(5, 61, 61);
    }

    /** "6: its RIGHT was at least so much, 7: at most." */
    private static void factsOfRight() {
        left(6, 0, 61);
        left(6, 61, 61);
        left(6, 62, 0);
        left(7, 60, 0);
        left(7, 61, 61);
        YoungerBench b = Calls.ruledBy(ONE, "right 41+day");
        b.fact(0, 6, 100);
        who("41 and 59 or 60 are 100", b, 2, 1, 59, 2);
        b.fact(0, 6, 101);
        who("never more", b, 0, -2, -2, 0);
        b.fact(-1, 0, 0);
        b.fact(0, 7, 41);
        who("41 on DAY 0", b, 1, 1, 0, 2);
    }

    /** "WHO of a CASE: judges and DAYS 0 to 60 from which on they CAN hear it," */
    private static void days0To60() {
        who("61 DAYS", Calls.townOf(ONE), 61, 1, 0, 2);
        who("DAY 60", Calls.townOf("town 1 99;person 900 0 0;person 100 3 0;case 0 1 9 60"), 1, 1, 60, 2);
        who("DAY 61", Calls.townOf("town 1 99;person 900 0 0;person 100 3 0;case 0 1 9 61"), 0, -2, -2, 0);
        who("DAY 0 alone", Calls.townOf("town 1 99;bench 0 100;person 900 0 0;person 100 3 0;case 0 1 1 0"), 1, 1, 0, 2);
        YoungerBench b = Calls.townOf(ONE);
        Calls.days(b, 62);
        who("whatever DAY it is", b, 61, 1, 0, 2);
        who("less BIRTHDAYS", Calls.townOf("town 1 10;person 900 0 0;person 100 3 0;case 0 1 9 0"), 6, 1, 1, 2);
        who("a twin", Calls.townOf("town 1 99;person 900 0 0;person 100 3 0;twins 0 1;case 0 1 1 0"), 0, -2, -2, 0);
    }

    /** "by which all FACTS of it are so" */
    private static void allFactsOfIt() {
        YoungerBench b = Calls.townOf(ONE);
        b.fact(1, 4, 61);
        who("a FACT of another CASE", b, 61, 1, 0, 2);
        Calls.due("of that one", b.who(1, 0), 0);
        b.fact(0, 4, 10);
        b.fact(0, 5, 12);
        who("10 to 12", b, 3, 1, 10, 2);
        b.fact(0, 0, 111);
        b.fact(0, 1, 111);
        who("at 111", b, 1, 1, 11, 2);
        b.fact(0, 3, 2);
        who("against one another", b, 0, -2, -2, 0);
        b.day();
        b.undo();
        who("UNDONE are ACTS, not FACTS", b, 0, -2, -2, 0);
    }

    /** "(RIGHT by the RULE IN FORCE and WIT as now, WORDS ruled and appeal 0):" */
    private static void asNow() {
        YoungerBench b = Calls.ruledBy(ONE, "right wit*10+ruled*3+appeal*5");
        b.fact(0, 6, 30);
        b.fact(0, 7, 30);
        Calls.due("30", b.who(0, 0), 61);
        b.hear(0, 1);
        b.day();
        Calls.due("now it would be 38", b.right(0, 1), 38);
        Calls.due("30 still", b.who(0, 0), 61);
        b.teach(1);
        Calls.due("40 then", b.who(0, 0), 0);
        b.fact(-1, 0, 0);
        b.fact(0, 2, 4);
        Calls.due("WIT 4 now", b.who(0, 0), 61);
        b.fact(0, 6, 65);
        Calls.due("by that RULE 40", b.who(0, 0), 0);
        b.force(-1);
        Calls.due("without a RULE 66", b.who(0, 0), 61);
    }

    /** "how many; the first (by judges, then DAYS);" */
    private static void firstByJudges() {
        String town = "town 1 99;person 900 0 0;person 95 3 0;person 102 3 0;case 0 1 1 0";
        YoungerBench b = Calls.townOf(town);
        who("both", b, 60 + 61, 1, 0, 6);
        b.fact(0, 0, 103);
        who("judge 1 from DAY 8 on, judge 2 from DAY 1 on", b, 53 + 60, 1, 8, 6);
        b.fact(0, 5, 7);
        who("judge 2 alone", b, 7, 2, 1, 4);
    }

    /** "who in some of these, as bits." */
    private static void whoAsBits() {
        YoungerBench b = Calls.townOf("town 1 99;person 103 9 0;person 900 0 0;person 102 3 0;person 101 3 0;person 100 3 0;"
                + "person 901 3 0;person 104 4 0;case 1 1 1 0");
        who("all but the elder two", b, 5 * 61, 0, 0, 1 + 4 + 8 + 16 + 64);
        b.fact(0, 2, 4);
        who("the first and the last", b, 122, 0, 0, 65);
        b.fact(0, 3, 4);
        who("the last", b, 61, 6, 0, 64);
    }

    /** "LOOK at it: which of three parts these best: 0 the judge, 1 the DAY, 2 RIGHT: the most alike are fewest," */
    private static void lookParts() {
        String town = "town 1 99;person 900 0 0;person 102 3 0;person 101 3 0;person 100 3 0;case 0 1 1 0";
        YoungerBench b = Calls.townOf(town);
        look("three a DAY", b, 1, 3);
        b.fact(0, 5, 1);
        look("two a judge", b, 0, 2);
        b.fact(0, 5, 0);
        look("one a judge", b, 0, 1);
        YoungerBench r = Calls.ruledBy(town, "right judge*10+day");
        r.fact(0, 5, 1);
        look("one a RIGHT", r, 2, 1);
        YoungerBench most = Calls.ruledBy(town, "right 5 if judge=1 and day=0;right judge*20+day");
        most.fact(0, 5, 3);
        // DAYS 0 to 3 of three judges: four a judge, three a DAY, one a RIGHT
        look("one a RIGHT, though one is less", most, 2, 1);
        YoungerBench alike = Calls.ruledBy(town, "right 7 if judge<3 and day<2;right judge*20+day");
        alike.fact(0, 5, 3);
        look("the most alike count: four of RIGHT 7", alike, 1, 3);
    }

    /** "of several the least; how many." */
    private static void lookSeveral() {
        YoungerBench b = Calls.townOf("town 1 99;person 900 0 0;person 102 3 0;person 101 3 0;case 0 1 1 60");
        look("DAY 60: one a judge, two a DAY", b, 0, 1);
        b.fact(0, 1, 161);
        look("one alone: all are as good", b, 0, 1);
        YoungerBench d = Calls.ruledBy(ONE, "right day");
        look("the DAY and RIGHT", d, 1, 1);
        YoungerBench j = Calls.ruledBy("town 1 99;person 900 0 0;person 102 3 0;person 101 3 0;case 0 1 1 60", "right judge");
        look("the judge and RIGHT", j, 0, 1);
        YoungerBench most = Calls.ruledBy(ONE, "right 100");
        look("61 of RIGHT 100", most, 1, 1);
        most.fact(0, 5, 0);
        look("all of one", most, 0, 1);
    }

    /** Promise 22: "A FACT (what 0 to 7, a number 0 to 9999;" "how many;" */
    private static void factTold() {
        YoungerBench b = Towns.four();
        for (int what = 0; what < 8; what++) {
            Calls.due("what " + what, b.fact(what % 3, what, what % 2 == 0 ? 0 : 9999), what + 1);
        }
        Calls.due("FACTS", b.count(11), 8);
        Calls.due("no ACTS", b.count(12), 0);
        who("these leave all", b, 142, 1, 0, 14);
    }

    /** Promise 22: "trial NONE: there are none then, 0):" */
    private static void factNone() {
        YoungerBench b = Calls.townOf(ONE);
        Calls.due("of none", b.fact(-1, 0, 0), 0);
        for (int i = 0; i < 10; i++) {
            b.fact(i % 2, 4, 61);
        }
        Calls.due("of ten", b.fact(YoungerBench.NONE, 3, 5), 0);
        Calls.due("FACTS", b.count(11), 0);
        who("none", b, 61, 1, 0, 2);
        Calls.due("of the other CASE, too", b.who(1, 0), 61);
        b.fact(0, 4, 61);
        Calls.due("whatever is asked for", b.fact(-1, 8, -1), 0);
        Calls.due("FACTS", b.count(11), 0);
        Calls.due("without a TOWN", new YoungerBench().fact(-1, 0, 0), 0);
    }

    /** Promise 22: "-2, and nothing happens, without these, or if there are 10." */
    private static void factWithoutThese() {
        YoungerBench b = Calls.townOf(ONE);
        b.fact(0, 4, 60);
        String was = Calls.all(b);
        int[] trials = {-2, 2, 6, Integer.MAX_VALUE, Integer.MIN_VALUE};
        int[] whats = {-1, 8, Integer.MAX_VALUE, Integer.MIN_VALUE};
        int[] numbers = {-1, 10000, Integer.MAX_VALUE, Integer.MIN_VALUE};
        for (int trial : trials) {
            Calls.due("CASE " + trial, b.fact(trial, 0, 0), -2);
        }
        for (int what : whats) {
            Calls.due("what " + what, b.fact(0, what, 0), -2);
        }
        for (int number : numbers) {
            Calls.due("number " + number, b.fact(0, 0, number), -2);
        }
        Calls.stays("fact", was, b);
        who("the one that was", b, 1, 1, 60, 2);
        for (int i = 1; i < 10; i++) {
            b.fact(1, 0, 0);
        }
        was = Calls.all(b);
        Calls.due("there are 10", b.fact(0, 4, 61), -2);
        Calls.stays("an eleventh", was, b);
        who("the one that was", b, 1, 1, 60, 2);
        Calls.due("without a TOWN", new YoungerBench().fact(0, 0, 0), -2);
    }

    /** Promise 23: "WHO what 0: how many, 1: the judge, 2: the DAY of the first (-2: there is none), 3: as bits." */
    private static void whoAnswers() {
        YoungerBench zero = Calls.townOf("town 1 99;person 100 3 0;person 900 0 0;case 0 1 1 0;case 1 1 1 0");
        who("none", zero, 0, -2, -2, 0);
        int[] due = {61, 0, 0, 1};
        for (int what = 0; what < 4; what++) {
            Calls.due("PERSON 0: who(1," + what + ")", zero.who(1, what), due[what]);
        }
    }

    /** Promise 23: "NONE without these." */
    private static void whoWithoutThese() {
        YoungerBench b = Towns.four();
        int[] whats = {-1, 4, Integer.MAX_VALUE, Integer.MIN_VALUE};
        int[] trials = {-1, 3, 6, Integer.MAX_VALUE, Integer.MIN_VALUE};
        for (int what : whats) {
            Calls.due("what " + what, b.who(0, what), -1);
        }
        for (int trial : trials) {
            Calls.due("CASE " + trial, b.who(trial, 0), -1);
            Calls.due("CASE " + trial, b.who(trial, 3), -1);
        }
        Calls.due("without a TOWN", new YoungerBench().who(0, 0), -1);
    }

    /** Promise 24: "LOOK what 0: which, 1: how many;" */
    private static void lookAnswers() {
        look("one a DAY", Calls.townOf(ONE), 1, 1);
        look("seven PEOPLE: six a DAY", Calls.townOf("town 1 99;person 900 0 0" + Calls.times(6, ";person 100 3 0") + ";case 0 1 1 0"), 1, 6);
    }

    /** Promise 24: "-2: there are none." */
    private static void lookNone() {
        YoungerBench b = Calls.townOf(ONE + ";case 1 1 1 0");
        Calls.due("nobody CAN: which", b.look(2, 0), -2);
        Calls.due("nobody CAN: how many", b.look(2, 1), -2);
        b.fact(0, 4, 61);
        look("by a FACT", b, -2, -2);
        Calls.due("of another one there are", b.look(1, 0), 1);
    }

    /** Promise 24: "NONE without these." */
    private static void lookWithoutThese() {
        YoungerBench b = Towns.four();
        int[] whats = {-1, 2, 3, Integer.MAX_VALUE, Integer.MIN_VALUE};
        int[] trials = {-1, 3, 6, Integer.MAX_VALUE, Integer.MIN_VALUE};
        for (int i = 0; i < 5; i++) {
            Calls.due("what " + whats[i], b.look(0, whats[i]), -1);
            Calls.due("CASE " + trials[i], b.look(trials[i], 0), -1);
        }
        Calls.due("without a TOWN", new YoungerBench().look(0, 0), -1);
    }
}
