/** Boundary cases of ACTS and of promises 8 and 11 to 14; each remark tells the document's sentence. */
public final class BoundsActsTest {
    private static final String LONG = "town 1 90;person 85 0 0;person 12 3 0;person 11 3 0;person 10 3 0;case 0 1 1 0;case 0 1 9 0";

    public static void main(String[] args) {
        oneDayLess();
        atNoneItIsRuled();
        asToldWhenBegun();
        hearNotHeardNow();
        hearWhoCan();
        hearsNoneNow();
        appealOfARuledOne();
        appealToTheYounger();
        teachToNine();
        lastTwenty();
        lastFirst();
        toldOfACase();
        whoHearsIt();
        whoRuledIt();
        noCase();
        howManyAreRuled();
        noDay();
        howRight();
        hearWithoutThese();
        witThen();
        teachNobody();
        howManyMore();
        noneCan();
        Calls.close();
    }

    /** "ACTS: a DAY goes by (999 at most): each CASE that is heard has one day less to go;" */
    private static void oneDayLess() {
        YoungerBench b = Calls.townOf(LONG);
        b.hear(1, 1);
        for (int left = 9; left > 0; left--) {
            Calls.due("days to go", b.trial(1, 5), left);
            Calls.due("of one that is not heard", b.trial(0, 5), 0);
            b.day();
        }
        Calls.due("none", b.trial(1, 5), 0);
        Calls.due("DAY", b.count(6), 9);
    }

    /** "at none it is ruled by its judge," */
    private static void atNoneItIsRuled() {
        YoungerBench b = Calls.townOf(LONG);
        b.hear(1, 1);
        b.hear(0, 2);
        Calls.due("LENGTH 1: on the first day", b.day(), 1);
        Calls.due("by its judge", b.trial(0, 6), 2);
        for (int day = 1; day < 8; day++) {
            Calls.due("LENGTH 9: not on day " + day, b.day(), 0);
            Calls.due("not ruled", b.trial(1, 6), -1);
        }
        Calls.due("LENGTH 9: on the ninth", b.day(), 1);
        Calls.due("by its judge", b.trial(1, 6), 1);
        Calls.due("no more", b.day(), 0);
    }

    /** "as RIGHT as told when it was begun." */
    private static void asToldWhenBegun() {
        YoungerBench b = Calls.ruledBy(LONG, "right wit*10+day");
        Calls.rule(b, "right 100");
        Calls.due("told", b.hear(1, 1), 30);
        b.teach(1);
        Calls.days(b, 8);
        b.force(1);
        b.day();
        Calls.due("as told", b.trial(1, 7), 30);
        b.force(0);
        Calls.due("an appeal is told anew", b.hear(1, 2), 39);
        Calls.days(b, 9);
        Calls.due("as told", b.trial(1, 7), 39);
    }

    /** "HEAR (a CASE that is not heard now, nor ruled yet, begins" */
    private static void hearNotHeardNow() {
        YoungerBench b = Calls.townOf(LONG);
        b.hear(1, 1);
        String was = Calls.all(b);
        Calls.due("heard now by another", b.hear(1, 2), -1);
        Calls.due("heard now by them", b.hear(1, 1), -1);
        Calls.stays("hear", was, b);
        Calls.days(b, 8);
        Calls.due("a day to go", b.hear(1, 2), -1);
        b.day();
        Calls.due("ruled: no HEAR before the same one", b.hear(1, 1), -1);
        Calls.due("ruled: an APPEAL", b.hear(1, 2), 61);
        YoungerBench zero = Calls.townOf("town 1 90;person 10 3 0;person 85 0 0;person 11 3 0;case 1 1 9 0");
        Calls.due("before PERSON 0", zero.hear(0, 0), 61);
        Calls.due("heard now by PERSON 0", zero.hear(0, 2), -1);
        Calls.due("PERSON 0 hears it", zero.person(0, 5), 0);
    }

    /** "before a judge who CAN from this DAY on," */
    private static void hearWhoCan() {
        YoungerBench b = Calls.townOf("town 3 20;bench 5 40;person 60 0 0;person 18 0 0;person 4 0 0;person 58 0 0;person 39 0 0;"
                + "twins 0 4;case 0 1 2 1;case 1 1 1 0");
        Calls.due("before it can be heard", b.hear(0, 1), -1);
        Calls.due("too young", b.hear(1, 2), -1);
        b.day();
        Calls.due("a BIRTHDAY on the second day", b.hear(0, 1), -1);
        Calls.due("not younger by GAP", b.hear(0, 3), -1);
        Calls.due("a twin", b.hear(0, 4), -1);
        Calls.due("of an AGE to sit now", b.hear(1, 2), 46);
        b.day();
        Calls.due("a BIRTHDAY today", b.hear(0, 1), -1);
        b.day();
        Calls.due("behind it", b.hear(0, 1), 46);
    }

    /** "and hears none now)." */
    private static void hearsNoneNow() {
        YoungerBench b = Calls.townOf(LONG);
        b.hear(1, 1);
        Calls.due("hears one", b.hear(0, 1), -1);
        Calls.days(b, 8);
        Calls.due("hears it still", b.hear(0, 1), -1);
        b.day();
        Calls.due("hears none", b.hear(0, 1), 61);
        YoungerBench c = Calls.townOf(LONG);
        c.hear(0, 1);
        c.day();
        c.hear(0, 2);
        Calls.due("hears an appeal", c.hear(1, 2), -1);
        Calls.due("ruled it before, hears none", c.hear(1, 1), 61);
    }

    /** "APPEAL (likewise of a CASE that is ruled," */
    private static void appealOfARuledOne() {
        YoungerBench b = Calls.townOf(LONG);
        b.hear(0, 1);
        b.day();
        Calls.due("an APPEAL", b.hear(0, 2), 61);
        Calls.due("heard now", b.hear(0, 3), -1);
        b.day();
        Calls.due("another APPEAL", b.hear(0, 3), 61);
        b.day();
        Calls.due("ruled three times", b.trial(0, 9), 3);
        YoungerBench c = Calls.townOf("town 1 20;person 85 0 0;person 19 3 0;person 17 3 0;case 0 1 1 0");
        c.hear(0, 1);
        Calls.days(c, 3);
        Calls.due("who CAN'T: a BIRTHDAY", c.hear(0, 2), -1);
        c.day();
        Calls.due("who CAN", c.hear(0, 2), 61);
    }

    /** "before one who is younger than who ruled it last by GAP or more, too)." */
    private static void appealToTheYounger() {
        YoungerBench b = Calls.townOf("town 5 90;person 80 0 0;person 20 0 0;person 16 0 0;person 15 0 0;person 11 0 0;person 10 0 0;"
                + "person 25 0 0;case 0 1 1 0");
        b.hear(0, 1);
        b.day();
        Calls.due("by 4", b.hear(0, 2), -1);
        Calls.due("elder by 5", b.hear(0, 6), -1);
        Calls.due("the same one", b.hear(0, 1), -1);
        Calls.due("by 5", b.hear(0, 3), 46);
        Calls.due("while it is heard", b.trial(0, 6), 1);
        b.day();
        Calls.due("by 9 than the first, by 4 than the last", b.hear(0, 4), -1);
        Calls.due("by 5 than the last", b.hear(0, 5), 46);
        b.day();
        for (int p = 0; p < 7; p++) {
            Calls.due("nobody is younger: " + p, b.hear(0, p), -1);
        }
    }

    /** "TEACH (WIT is one more, 9 at most)." */
    private static void teachToNine() {
        YoungerBench b = Calls.townOf("town 1 5;person 1 0 0;person 1 8 0;person 1 9 0");
        for (int wit = 1; wit <= 9; wit++) {
            Calls.due("one more", b.teach(0), wit);
        }
        Calls.due("not 10", b.teach(0), -1);
        Calls.due("from 8 to 9", b.teach(1), 9);
        Calls.due("at 9", b.teach(2), -1);
        Calls.due("9 stays", b.person(2, 1), 9);
    }

    /** "The last 20 can be UNDONE," */
    private static void lastTwenty() {
        YoungerBench b = Calls.townOf("town 1 99;person 1 0 0");
        for (int i = 1; i <= 45; i++) {
            b.day();
            Calls.due("ACTS", b.count(12), Math.min(i, 20));
        }
        for (int i = 19; i >= 0; i--) {
            Calls.due("undo", b.undo(), i);
        }
        Calls.due("no more", b.undo(), -1);
        Calls.due("25 days can't be undone", b.count(6), 25);
    }

    /** "the last first." */
    private static void lastFirst() {
        YoungerBench b = Calls.townOf(LONG);
        b.hear(0, 1);
        b.teach(0);
        b.day();
        b.hear(0, 2);
        b.day();
        Calls.due("the day", b.undo(), 4);
        Calls.due("heard by the second, ruled by the first", b.trial(0, 4) * 10 + b.trial(0, 6), 21);
        Calls.due("a day to go", b.trial(0, 5), 1);
        Calls.due("the appeal", b.undo(), 3);
        Calls.due("heard by none, ruled by the first", b.trial(0, 4) * 10 + b.trial(0, 6), -9);
        Calls.due("the first day", b.undo(), 2);
        Calls.due("heard by the first, ruled by none", b.trial(0, 4) * 10 + b.trial(0, 6), 9);
        Calls.due("WIT is one more", b.person(0, 1), 1);
        Calls.due("the supper", b.undo(), 1);
        Calls.due("WIT as told", b.person(0, 1), 0);
        Calls.due("the hearing", b.undo(), 0);
        Calls.due("heard by none", b.trial(0, 4), -1);
        Calls.stays("all UNDONE", Calls.all(Calls.townOf(LONG)), b);
    }

    private static void told(YoungerBench b, int trial, int... due) {
        for (int what = 0; what < due.length; what++) {
            Calls.due("trial(" + trial + "," + what + ")", b.trial(trial, what), due[what]);
        }
    }

    /** Promise 8: "Of a CASE what 0: accused, 1: GRAVITY, 2: LENGTH, 3: from which DAY on," */
    private static void toldOfACase() {
        YoungerBench b = Calls.townOf("town 1 5;person 1 1 1;person 1 1 1;case 0 1 1 0;case 1 9 9 99");
        told(b, 0, 0, 1, 1, 0, -1, 0, -1, -1, -1, 0);
        told(b, 1, 1, 9, 9, 99, -1, 0, -1, -1, -1, 0);
        Calls.days(b, 9);
        told(b, 1, 1, 9, 9, 99);
    }

    /** Promise 8: "4: who hears it (NONE), 5: days to go (0)," */
    private static void whoHearsIt() {
        YoungerBench b = Calls.townOf("town 1 90;person 1 3 0;person 80 0 0;case 1 1 2 0");
        told(b, 0, 1, 1, 2, 0, -1, 0);
        b.hear(0, 0);
        told(b, 0, 1, 1, 2, 0, 0, 2);
        b.day();
        told(b, 0, 1, 1, 2, 0, 0, 1);
        b.day();
        told(b, 0, 1, 1, 2, 0, -1, 0);
    }

    /**
     * Promise 8: "6: who ruled it last (NONE), 7: how RIGHT (NONE), 8: the judge's AGE on the DAY it was ruled (NONE), 9:
     * how often it was ruled."
     */
    private static void whoRuledIt() {
        YoungerBench b = Calls.ruledBy("town 1 90;person 0 3 0;person 7 3 0;person 80 0 0;case 2 1 2 1", "right day-1");
        told(b, 0, 2, 1, 2, 1, -1, 0, -1, -1, -1, 0);
        b.day();
        Calls.due("RIGHT 0", b.hear(0, 1), 0);
        told(b, 0, 2, 1, 2, 1, 1, 2, -1, -1, -1, 0);
        Calls.days(b, 2);
        told(b, 0, 2, 1, 2, 1, -1, 0, 1, 0, 9, 1);
        Calls.due("by PERSON 0", b.hear(0, 0), 2);
        told(b, 0, 2, 1, 2, 1, 0, 2, 1, 0, 9, 1);
        Calls.days(b, 2);
        told(b, 0, 2, 1, 2, 1, -1, 0, 0, 2, 4, 2);
        Calls.days(b, 5);
        told(b, 0, 2, 1, 2, 1, -1, 0, 0, 2, 4, 2);
    }

    /** Promise 8: "-2 without these." */
    private static void noCase() {
        YoungerBench b = Towns.four();
        int[] trials = {-1, 3, 5, 6, Integer.MAX_VALUE, Integer.MIN_VALUE};
        for (int trial : trials) {
            Calls.due("trial(" + trial + ",0)", b.trial(trial, 0), -2);
            Calls.due("trial(" + trial + ",9)", b.trial(trial, 9), -2);
        }
        int[] whats = {-1, 10, Integer.MAX_VALUE, Integer.MIN_VALUE};
        for (int what : whats) {
            Calls.due("trial(0," + what + ")", b.trial(0, what), -2);
        }
        for (int what = 0; what < 10; what++) {
            Calls.due("without a TOWN", new YoungerBench().trial(0, what), -2);
            Calls.due("without CASES", Calls.townOf("town 1 5").trial(0, what), -2);
        }
    }

    /** Promise 11: "A DAY: how many are ruled;" */
    private static void howManyAreRuled() {
        YoungerBench b = Calls.townOf("town 1 99;person 90 0 0;person 16 0 0;person 15 0 0;person 14 0 0;person 13 0 0;"
                + "person 12 0 0;person 11 0 0" + Calls.times(6, ";case 0 1 1 0"));
        Calls.due("none", b.day(), 0);
        for (int i = 0; i < 6; i++) {
            b.hear(i, i + 1);
        }
        Calls.due("six", b.day(), 6);
        Calls.due("none again", b.day(), 0);
        b.hear(0, 6);
        Calls.due("an appeal", b.day(), 1);
        Calls.due("without PEOPLE", Calls.townOf("town 1 5").day(), 0);
    }

    /** Promise 11: "NONE, and nothing happens, without a TOWN, or on DAY 999." - that DAY lies beyond the 512 calls; it holds all the same. */
    private static void noDay() {
        YoungerBench none = new YoungerBench();
        Calls.due("without a TOWN", none.day(), -1);
        Calls.due("DAY 0 still", none.count(6), 0);
        Calls.due("nothing to be UNDONE", none.count(12), 0);
        YoungerBench b = Calls.townOf("town 1 90;person 9000 0 0;person 1 3 0;case 0 1 2 0");
        Calls.days(b, 998);
        Calls.due("on DAY 998", b.hear(0, 1), 61);
        Calls.due("to DAY 999", b.day(), 0);
        String was = Calls.all(b);
        Calls.due("on DAY 999", b.day(), -1);
        Calls.stays("day", was, b);
        Calls.due("DAY 999 still", b.count(6), 999);
        b.undo();
        Calls.due("DAY 998 again", b.count(6), 998);
    }

    /** Promise 12: "HEAR, of one that is ruled APPEAL: how RIGHT it will be;" */
    private static void howRight() {
        YoungerBench b = Calls.ruledBy(LONG, "right appeal*100");
        Calls.due("HEAR, RIGHT 0", b.hear(0, 1), 0);
        b.day();
        Calls.due("APPEAL, RIGHT 100", b.hear(0, 2), 100);
        Calls.due("the former one is told still", b.trial(0, 7), 0);
        b.day();
        Calls.due("so RIGHT it is", b.trial(0, 7), 100);
    }

    /** Promise 12: "NONE, and nothing happens, without these." */
    private static void hearWithoutThese() {
        YoungerBench b = Towns.four();
        b.hear(0, 1);
        String was = Calls.all(b);
        int[] wrong = {-1, 4, 7, Integer.MAX_VALUE, Integer.MIN_VALUE};
        for (int i : wrong) {
            Calls.due("judge " + i, b.hear(2, i), -1);
            Calls.due("CASE " + i, b.hear(i, 3), -1);
        }
        Calls.due("CASE 3", b.hear(3, 3), -1);
        Calls.due("who can't", b.hear(2, 0), -1);
        Calls.due("not yet", b.hear(1, 3), -1);
        Calls.due("heard", b.hear(0, 3), -1);
        Calls.due("hears one", b.hear(2, 1), -1);
        Calls.stays("hear", was, b);
        Calls.due("without a TOWN", new YoungerBench().hear(0, 0), -1);
    }

    /** Promise 13: "TEACH: WIT then;" */
    private static void witThen() {
        YoungerBench b = Calls.townOf("town 1 5;person 1 0 0;person 1 8 0");
        Calls.due("from 0", b.teach(0), 1);
        Calls.due("from 8", b.teach(1), 9);
        Calls.due("an ACT each", b.count(12), 2);
        Calls.due("of that one alone", b.person(0, 1), 1);
    }

    /** Promise 13: "NONE, and nothing happens, without that PERSON, or at 9." */
    private static void teachNobody() {
        YoungerBench b = Calls.townOf("town 1 5;person 1 8 0;person 1 9 0");
        b.teach(0);
        String was = Calls.all(b);
        int[] wrong = {-1, 2, 7, Integer.MAX_VALUE, Integer.MIN_VALUE};
        for (int p : wrong) {
            Calls.due("PERSON " + p, b.teach(p), -1);
        }
        Calls.due("taught to 9", b.teach(0), -1);
        Calls.due("told with 9", b.teach(1), -1);
        Calls.stays("teach", was, b);
        Calls.due("without a TOWN", new YoungerBench().teach(0), -1);
    }

    /** Promise 14: "The last ACT is UNDONE: how many more can be;" */
    private static void howManyMore() {
        YoungerBench b = Calls.townOf("town 1 5;person 1 0 0");
        b.day();
        Calls.due("of one", b.undo(), 0);
        Calls.days(b, 20);
        Calls.due("of twenty", b.undo(), 19);
        Calls.days(b, 2);
        Calls.due("of 21", b.undo(), 19);
        Calls.due("DAY", b.count(6), 20);
        b.teach(0);
        Calls.due("the last one", b.undo(), 19);
        Calls.due("WIT", b.person(0, 1), 0);
        Calls.due("the one before", b.undo(), 18);
        Calls.due("DAY", b.count(6), 19);
    }

    /** Promise 14: "NONE, and nothing happens: none can." */
    private static void noneCan() {
        Calls.due("without a TOWN", new YoungerBench().undo(), -1);
        YoungerBench b = Towns.four();
        Calls.due("no ACT yet", b.undo(), -1);
        Calls.days(b, 21);
        for (int i = 0; i < 20; i++) {
            b.undo();
        }
        String was = Calls.all(b);
        Calls.due("a 21st", b.undo(), -1);
        Calls.stays("undo", was, b);
        Calls.due("DAY", b.count(6), 1);
        b.hear(9, 9);
        b.teach(9);
        Calls.due("what did not happen is not UNDONE", b.undo(), -1);
    }
}
