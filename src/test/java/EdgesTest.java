/** Edges of several promises: PERSON 0 as a judge, numbers at their limits, and what a new TOWN or an IMAGE leaves. */
public final class EdgesTest {
    /** Towns.FOUR the other way round: PERSON 0 is the youngest. */
    private static final String TURNED = "town 10 20;bench 5 90;person 8 9 2;person 33 3 0;person 50 7 1;person 85 5 0;"
            + "twins 2 1;case 3 3 2 0;case 2 5 3 1;case 3 6 1 0";

    public static void main(String[] args) {
        firstPersonJudges();
        firstPersonRules();
        rowsOfTwoJudges();
        lastOfHundredDays();
        fourOpenLesson();
        numbersAtLimits();
        drawAtRight();
        newTownBeginsAnew();
        rightToBeIsKept();
        Calls.close();
    }

    private static void firstPersonJudges() {
        YoungerBench b = Calls.townOf(TURNED);
        int[] row = {211, 5, 0, 1, 2, -2, 0, 0, 0, -2, 0, 2, 5, -2};
        for (int what = 0; what < row.length; what++) {
            Calls.due("benches(" + what + ")", b.benches(what), row[what]);
        }
        int[] chain = {3, 2, 1, 0, -2, -2, -2, -2};
        for (int what = 0; what < chain.length; what++) {
            Calls.due("down(0," + what + ")", b.down(0, what), chain[what]);
        }
        int[] clement = {1, 53, 0, 77};
        int[] who = {36 + 51 + 55, 0, 0, 7};
        for (int what = 0; what < 4; what++) {
            Calls.due("clement(0," + what + ")", b.clement(0, what), clement[what]);
            Calls.due("who(0," + what + ")", b.who(0, what), who[what]);
        }
        Calls.due("above(60)", b.above(60), 1);
        Calls.due("commit", b.commit(3, 3, 2, 11, 1), 77);
        Calls.due("commit of 2: 0 alone", b.commit(2, 5, 3, 1, 1), 69);
        Calls.due("soonest", b.soonest(1, 0), 1);
        Calls.due("lesson: who", b.lesson(0), 1);
        b.day();
        Calls.due("clement of 0 alone", b.clement(1, 0), 0);
        Calls.due("clement of 0 alone", b.clement(1, 3), 69);
        Calls.due("down to 0 alone", b.down(1, 1), 0);
    }

    private static void firstPersonRules() {
        YoungerBench b = Calls.townOf(TURNED);
        Calls.due("hear", b.hear(2, 0), 65);
        Calls.due("heard", b.count(7), 4);
        Calls.due("heard already", b.hear(2, 1), -1);
        Calls.due("hears one already", b.hear(0, 0), -1);
        Calls.due("the CASE they hear", b.person(0, 5), 2);
        Calls.due("not open", b.benches(0), 77 + 69);
        Calls.due("behind it", b.benches(10), 1);
        Calls.due("a day", b.day(), 1);
        Calls.due("who ruled it", b.trial(2, 6), 0);
        Calls.due("ruled", b.count(8), 4);
        Calls.due("nobody is younger", b.down(2, 0), 0);
        Calls.due("nobody is younger", b.hear(2, 1), -1);
        Calls.due("nobody is younger", b.hear(2, 2), -1);
        Calls.due("how many they ruled", b.person(0, 6), 1);
    }

    /** CASES 0 and 2 go before judge 1 alone, 1 and 3 before judge 2; of each two the second one must come first. */
    private static void rowsOfTwoJudges() {
        YoungerBench b = Calls.townOf("town 1 90;bench 0 70;person 80 0 0;person 10 3 0;person 11 3 0;person 81 0 0;twins 0 2;"
                + "twins 3 1;case 0 1 4 4;case 3 1 4 4;case 0 1 5 0;case 3 1 5 0");
        int[] row = {244, 8, 2, 0, 3, 1, 1, 1, 2, 2, 0, 5, 0, 5};
        for (int what = 0; what < row.length; what++) {
            Calls.due("two judges: benches(" + what + ")", b.benches(what), row[what]);
        }
    }

    private static void lastOfHundredDays() {
        YoungerBench b = Calls.townOf("town 1 50;person 900 0 0;person 1 3 0;case 0 1 1 99");
        // judge 1 is 100 on DAY 99
        Calls.due("DAY 100 is not looked at", b.benches(0), -2);
        Calls.due("DAY 100 is not looked at", b.lesson(0), -2);
        b.day();
        Calls.due("DAY 100 is looked at then", b.benches(10), 100);
        YoungerBench c = Calls.townOf("town 1 50;person 900 0 0;person 2 3 0;case 0 1 1 99");
        Calls.due("DAY 99 is looked at", c.benches(10), 99);
    }

    private static void fourOpenLesson() {
        YoungerBench b = Calls.townOf("town 1 90;person 80 0 0;person 10 3 0;case 0 1 1 0;case 0 1 1 0;case 0 1 1 0;case 0 1 1 0");
        Calls.due("of four CASES", b.lesson(0), 1);
        Calls.due("of four CASES", b.lesson(1), 4 * 66);
    }

    private static void numbersAtLimits() {
        YoungerBench b = Calls.townOf("town 1 90;person 90 0 0;person 10 9 0;case 0 9 9 99;case 0 1 9 0");
        Calls.due("GRAVITY and LENGTH 9", b.commit(0, 9, 9, 1, 1), 59);
        Calls.due("one day", b.commit(0, 1, 1, 1, 0), 0);
        Calls.due("from DAY 99 on", b.soonest(0, 1), 99);
        Calls.rule(b, "right 100");
        b.force(0);
        Calls.due("RIGHT 100 is told", b.commit(0, 1, 1, 60, 1), 100);
        Calls.due("the first DAY", b.commit(0, 1, 1, 60, 0), 0);
        Calls.due("most alike of RIGHT 100", b.look(1, 1), 1);
        Calls.due("all DAYS", b.who(1, 0), 61);
        b.fact(1, 6, 100);
        Calls.due("at least 100", b.who(1, 0), 61);
        b.fact(1, 6, 101);
        Calls.due("at least 101", b.who(1, 0), 0);
    }

    /** Of the DRAWS 0 and 21468 the first calls PERSON 0, the second is 68 of 100. */
    private static void drawAtRight() {
        YoungerBench b = Calls.townOf("town 1 90;person 10 0 0;person 80 0 0;case 1 1 1 0");
        Calls.rule(b, "right 68");
        Calls.rule(b, "right 69");
        b.force(0);
        Calls.due("not below", b.years(1, 1, 0), 0);
        Calls.due("ruled", b.years(1, 1, 1), 1);
        b.force(1);
        Calls.due("below", b.years(1, 1, 0), 1);
        Calls.due("no day", b.years(1, 0, 0), -1);
    }

    private static void newTownBeginsAnew() {
        YoungerBench b = Calls.townOf(TURNED);
        b.hear(2, 0);
        b.day();
        b.hear(0, 1);
        b.teach(1);
        Calls.due("the same TOWN again", Calls.town(b, TURNED.replace("twins 2 1;", "")), 4);
        for (int p = 0; p < 4; p++) {
            Calls.due("hears none " + p, b.person(p, 5), -1);
            Calls.due("ruled none " + p, b.person(p, 6), 0);
            Calls.due("no twins " + p, b.person(p, 3), 0);
        }
        Calls.due("WIT as told", b.person(1, 1), 3);
        for (int c = 0; c < 3; c++) {
            int[] due = {-1, 0, -1, -1, -1, 0};
            for (int what = 4; what < 10; what++) {
                Calls.due("trial(" + c + "," + what + ")", b.trial(c, what), due[what - 4]);
            }
        }
        Calls.due("nothing heard, nothing ruled", b.count(7) + b.count(8), 0);
        Calls.due("all is open", b.benches(0), 211);
        Calls.due("a shorter one", Calls.town(b, "town 3 7;person 1 1 1"), 1);
        Calls.due("no bench", b.count(9) + b.count(10), 9999);
        Calls.due("a FAULT behind two PEOPLE", Calls.town(b, "town 4 8;person 1 1 1;person 1 1 1;"), Calls.fault(35, 0));
        Calls.due("the former stays", b.count(0) * 100 + b.count(1) * 10 + b.count(2), 371);
    }

    private static void rightToBeIsKept() {
        YoungerBench b = Towns.four();
        b.hear(0, 1);
        b.image(0);
        b.undo();
        Calls.due("another judge", b.hear(0, 3), 77);
        Calls.days(b, 2);
        Calls.due("as RIGHT as that one", b.trial(0, 7), 77);
        b.back(0);
        Calls.days(b, 2);
        Calls.due("as RIGHT as the first one", b.trial(0, 7), 70);
        Calls.due("an appeal", b.hear(0, 3), 77);
        b.undo();
        b.undo();
        b.day();
        Calls.due("ruled by the first one again", b.trial(0, 6) * 100 + b.trial(0, 7), 170);
        YoungerBench c = Towns.four();
        c.hear(0, 1);
        c.years(3, 40, 0);
        Calls.days(c, 2);
        Calls.due("YEARS leave it", c.trial(0, 7), 70);
    }
}
