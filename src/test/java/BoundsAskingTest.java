/** Boundary cases of DOWN, COMMIT, ABOVE and CLEMENT and of promises 17, 18, 19 and 21; each remark tells the document's sentence. */
public final class BoundsAskingTest {
    public static void main(String[] args) {
        chainOfYounger();
        allOfThemCan();
        belowWhoRuled();
        firstChain();
        downPlaces();
        downWithoutThese();
        commitDays();
        justFromThenOn();
        leastOfTheMost();
        commitFirst();
        commitAnswer();
        commitWithoutThese();
        aboveDays();
        aboveAsBits();
        aboveWithoutThese();
        clementLeast();
        clementGreatest();
        clementSeveral();
        clementNobody();
        clementWithoutThese();
        Calls.close();
    }

    private static void chain(String of, YoungerBench b, int trial, int... due) {
        Calls.due(of + ": how many", b.down(trial, 0), due.length);
        for (int place = 1; place <= 7; place++) {
            Calls.due(of + ": place " + place, b.down(trial, place), place <= due.length ? due[place - 1] : -2);
        }
    }

    /** "DOWN of a CASE: the longest chain of judges, each younger by GAP or more than the one ahead," */
    private static void chainOfYounger() {
        YoungerBench b = Calls.townOf("town 5 90;person 80 0 0;person 20 0 0;person 16 0 0;person 15 0 0;person 10 0 0;case 0 1 1 0");
        chain("by 5, not by 4", b, 0, 1, 3, 4);
        YoungerBench all = Calls.townOf("town 1 90;person 80 0 0;person 11 0 0;person 12 0 0;person 13 0 0;person 14 0 0;"
                + "person 15 0 0;person 16 0 0;case 0 1 1 0");
        chain("six", all, 0, 6, 5, 4, 3, 2, 1);
        YoungerBench same = Calls.townOf("town 1 90;person 80 0 0;person 11 0 0;person 11 0 0;case 0 1 1 0");
        chain("as old", same, 0, 1);
    }

    /** "who CAN hear it from this DAY on, all of them" */
    private static void allOfThemCan() {
        YoungerBench b = Calls.townOf("town 5 20;bench 3 99;person 80 0 0;person 32 0 0;person 18 0 0;person 2 0 0;case 0 1 2 0;"
                + "case 0 1 2 1;case 3 1 1 0");
        chain("3 too young", b, 0, 1, 2);
        chain("not yet", b, 1);
        chain("before nobody", b, 2);
        b.day();
        chain("2 ahead of a BIRTHDAY", b, 0, 1, 3);
        chain("now", b, 1, 1, 3);
        b.day();
        chain("2 on a BIRTHDAY", b, 0, 1, 3);
        b.day();
        chain("all three", b, 0, 1, 2, 3);
        YoungerBench twin = Calls.townOf("town 5 90;person 80 0 0;person 32 0 0;person 18 0 0;person 2 0 0;twins 0 2;case 0 1 2 0");
        chain("a twin", twin, 0, 1, 3);
        YoungerBench zero = Calls.townOf("town 5 20;person 19 0 0;person 32 0 0;person 80 0 0;case 2 1 1 0");
        chain("PERSON 0, too", zero, 0, 1, 0);
        zero.day();
        chain("PERSON 0 on a BIRTHDAY", zero, 0, 1);
    }

    /** "(the first one, if it is ruled, younger so than who ruled it last);" */
    private static void belowWhoRuled() {
        YoungerBench b = Calls.townOf("town 5 90;person 80 0 0;person 20 0 0;person 16 0 0;person 15 0 0;person 10 0 0;case 0 1 1 0");
        b.hear(0, 2);
        chain("heard, not ruled", b, 0, 1, 3, 4);
        b.day();
        chain("below 2: by 6, not by 1", b, 0, 4);
        b.undo();
        b.undo();
        b.hear(0, 1);
        b.day();
        chain("below 1: by 5, not by 4", b, 0, 3, 4);
        b.hear(0, 3);
        chain("under appeal it is below 1 still", b, 0, 3, 4);
        b.day();
        chain("below 3", b, 0, 4);
        b.hear(0, 4);
        b.day();
        chain("below 4", b, 0);
        YoungerBench first = Calls.townOf("town 5 90;person 20 0 0;person 15 0 0;person 80 0 0;case 2 1 1 0");
        first.hear(0, 0);
        first.day();
        chain("below PERSON 0", first, 0, 1);
    }

    /** "of several the first." */
    private static void firstChain() {
        YoungerBench b = Calls.townOf("town 5 90;person 80 0 0;person 10 0 0;person 20 0 0;person 21 0 0;person 15 0 0;person 11 0 0;"
                + "person 16 0 0;case 0 1 1 0");
        chain("2 4 1, 3 4 1, 3 6 1, 3 6 5", b, 0, 2, 4, 1);
        YoungerBench c = Calls.townOf("town 5 90;person 80 0 0;person 15 0 0;person 21 0 0;person 20 0 0;person 10 0 0;person 16 0 0;case 0 1 1 0");
        chain("2 1 4, 2 5 4, 3 1 4", c, 0, 2, 1, 4);
    }

    /** Promise 17: "DOWN what 0: how many, 1 to 7: the judge in that place (-2: so many there are not)." */
    private static void downPlaces() {
        YoungerBench none = Calls.townOf("town 1 90;person 10 0 0;case 0 1 1 0");
        chain("none", none, 0);
        YoungerBench zero = Calls.townOf("town 1 90;person 10 0 0;person 80 0 0;case 1 1 1 0");
        chain("PERSON 0 alone", zero, 0, 0);
    }

    /** Promise 17: "NONE without these." */
    private static void downWithoutThese() {
        YoungerBench b = Towns.four();
        int[] whats = {-1, 8, Integer.MAX_VALUE, Integer.MIN_VALUE};
        for (int what : whats) {
            Calls.due("down(0," + what + ")", b.down(0, what), -1);
        }
        int[] trials = {-1, 3, 6, Integer.MAX_VALUE, Integer.MIN_VALUE};
        for (int trial : trials) {
            Calls.due("down(" + trial + ",0)", b.down(trial, 0), -1);
            Calls.due("down(" + trial + ",7)", b.down(trial, 7), -1);
        }
        b.hear(2, 3);
        b.day();
        Calls.due("of a ruled one: down(2,-1)", b.down(2, -1), -1);
        Calls.due("without a TOWN", new YoungerBench().down(0, 0), -1);
    }

    private static void commit(YoungerBench b, int n, int day, int right) {
        Calls.due(n + " days: the DAY", b.commit(0, 1, 1, n, 0), day);
        Calls.due(n + " days: RIGHT", b.commit(0, 1, 1, n, 1), right);
    }

    /** "COMMIT of a PERSON, GRAVITY, LENGTH for n days (1 to 60): the DAY of these (this one first)" */
    private static void commitDays() {
        YoungerBench b = Calls.townOf("town 1 90;bench 0 69;person 900 0 0;person 11 3 0");
        commit(b, 1, 0, 61);
        commit(b, 59, 0, 61);
        commit(b, 60, 59, 0);
        b.day();
        commit(b, 58, 1, 61);
        commit(b, 59, 59, 0);
        commit(b, 1, 1, 61);
        YoungerBench now = Calls.townOf("town 1 90;person 900 0 0;person 90 3 0");
        commit(now, 1, 0, 0);
        commit(now, 60, 0, 0);
        now.day();
        commit(now, 1, 1, 61);
    }

    /** "on which, if it could be heard just from then on," */
    private static void justFromThenOn() {
        YoungerBench b = Calls.townOf("town 1 10;person 900 0 0;person 11 3 0;case 0 1 2 99");
        Calls.due("on DAY 0, whatever CASES there are", b.commit(0, 1, 2, 8, 1), 61);
        Calls.due("two days, the second a BIRTHDAY: the DAY", b.commit(0, 1, 2, 9, 0), 8);
        Calls.due("two days, the second a BIRTHDAY: RIGHT", b.commit(0, 1, 2, 9, 1), 0);
        Calls.due("one day", b.commit(0, 1, 1, 9, 1), 61);
        Calls.due("nine days", b.commit(0, 1, 9, 1, 1), 61);
        Calls.due("nine days from DAY 1 on", b.commit(0, 1, 9, 2, 0), 1);
        YoungerBench c = Calls.ruledBy("town 1 90;person 900 0 0;person 11 3 0;case 0 1 1 0", "right 50+day+appeal*9+ruled*7");
        c.hear(0, 1);
        c.day();
        Calls.due("WORD ruled as now, appeal 0, the DAY asked", c.commit(0, 1, 1, 1, 1), 58);
        Calls.due("of the first DAY", c.commit(0, 1, 1, 60, 0), 1);
    }

    /** "the most RIGHT of those who CAN hear it then is least (nobody CAN: 0);" */
    private static void leastOfTheMost() {
        // judge 2, 71, has a BIRTHDAY on DAY 3, judge 1, 61, on DAY 5
        YoungerBench b = Calls.townOf("town 1 10;person 900 0 0;person 15 3 0;person 17 5 0");
        commit(b, 3, 0, 71);
        commit(b, 4, 3, 61);
        commit(b, 60, 3, 61);
        YoungerBench twins = Calls.townOf("town 1 10;person 900 0 0;person 15 3 0;person 17 5 0;twins 0 1");
        commit(twins, 3, 0, 71);
        commit(twins, 4, 3, 0);
        YoungerBench zero = Calls.ruledBy("town 1 10;person 900 0 0;person 18 3 0", "right 0");
        commit(zero, 60, 0, 0);
        YoungerBench most = Calls.ruledBy("town 1 90;person 900 0 0;person 11 3 0", "right 100");
        commit(most, 60, 0, 100);
    }

    /** "of several the first; how much." */
    private static void commitFirst() {
        YoungerBench b = Calls.townOf("town 1 10;person 900 0 0;person 18 3 0");
        commit(b, 2, 0, 61);
        commit(b, 3, 2, 0);
        commit(b, 13, 2, 0);
        YoungerBench c = Calls.ruledBy("town 1 90;person 900 0 0;person 18 3 0", "right 9-day%5");
        commit(c, 60, 4, 5);
    }

    /** Promise 18: "COMMIT what 0: the DAY, 1: RIGHT." */
    private static void commitAnswer() {
        YoungerBench b = Calls.townOf("town 1 90;person 80 0 0;person 11 9 0;person 70 9 9;person 9 0 0;person 10 0 0;person 10 0 0;"
                + "person 10 0 0");
        Calls.due("GRAVITY 1", b.commit(0, 1, 1, 1, 1), 91);
        Calls.due("GRAVITY 9", b.commit(0, 9, 1, 1, 1), 59);
        Calls.due("LENGTH 9", b.commit(0, 1, 9, 1, 1), 91);
        Calls.due("PERSON 6", b.commit(6, 1, 1, 1, 1), 46);
        Calls.due("the youngest", b.commit(3, 1, 1, 1, 1), 0);
        YoungerBench first = Calls.townOf("town 1 90;person 11 3 0;person 80 0 0");
        Calls.due("before PERSON 0", first.commit(1, 1, 1, 1, 1), 61);
    }

    /** Promise 18: "NONE without these (GRAVITY, LENGTH 1 to 9)." */
    private static void commitWithoutThese() {
        YoungerBench b = Towns.four();
        int[] people = {-1, 4, 7, Integer.MAX_VALUE, Integer.MIN_VALUE};
        int[] digits = {0, -1, 10, Integer.MAX_VALUE, Integer.MIN_VALUE};
        int[] days = {0, -1, 61, Integer.MAX_VALUE, Integer.MIN_VALUE};
        int[] whats = {-1, 2, 3, Integer.MAX_VALUE, Integer.MIN_VALUE};
        for (int i = 0; i < 5; i++) {
            for (int what = 0; what < 2; what++) {
                Calls.due("PERSON " + people[i], b.commit(people[i], 1, 1, 1, what), -1);
                Calls.due("GRAVITY " + digits[i], b.commit(0, digits[i], 1, 1, what), -1);
                Calls.due("LENGTH " + digits[i], b.commit(0, 1, digits[i], 1, what), -1);
                Calls.due("n " + days[i], b.commit(0, 1, 1, days[i], what), -1);
            }
            Calls.due("what " + whats[i], b.commit(0, 1, 1, 1, whats[i]), -1);
        }
        Calls.due("without a TOWN", new YoungerBench().commit(0, 1, 1, 1, 0), -1);
        Calls.due("without PEOPLE", Calls.townOf("town 1 5").commit(0, 1, 1, 1, 0), -1);
    }

    /** "ABOVE for n days (1 to 60): who could be tried for a CASE of LENGTH 1 by nobody on any of these," */
    private static void aboveDays() {
        YoungerBench b = Calls.townOf("town 1 90;bench 70 89;person 900 0 0;person 11 0 0");
        Calls.due("1 day", b.above(1), 3);
        Calls.due("59 days", b.above(59), 3);
        Calls.due("60 days: of an AGE to sit on the last one", b.above(60), 2);
        b.day();
        Calls.due("58 days from DAY 1 on", b.above(58), 3);
        Calls.due("59 days from DAY 1 on", b.above(59), 2);
        YoungerBench once = Calls.townOf("town 1 90;bench 11 11;person 900 0 0;person 11 0 0");
        Calls.due("on the first day alone", once.above(1), 2);
        Calls.due("on the first of sixty", once.above(60), 2);
        once.day();
        Calls.due("not on one that went by", once.above(60), 3);
        YoungerBench short1 = Calls.townOf("town 1 5;person 900 0 0;person 14 0 0");
        Calls.due("LENGTH 1 ahead of a BIRTHDAY", short1.above(1), 2);
        short1.day();
        Calls.due("on it", short1.above(1), 3);
        YoungerBench late = Calls.townOf("town 1 90;person 900 0 0;person 11 0 0;case 0 1 9 99");
        Calls.due("whatever CASES there are", late.above(1), 2);
    }

    /** "as bits." - from nobody to all seven. */
    private static void aboveAsBits() {
        Calls.due("without PEOPLE", Calls.townOf("town 1 5").above(60), 0);
        Calls.due("one alone", Calls.townOf("town 1 5;person 7 0 0").above(60), 1);
        Calls.due("all seven", Calls.townOf("town 1 90" + Calls.times(7, ";person 7 0 0")).above(60), 127);
        Calls.due("the last one", Calls.townOf("town 1 90" + Calls.times(6, ";person 8 0 0") + ";person 7 0 0").above(1), 64);
        Calls.due("the first one", Calls.townOf("town 1 90;person 7 0 0" + Calls.times(6, ";person 8 0 0")).above(1), 1);
        Calls.due("twins", Calls.townOf("town 1 90;person 8 0 0;person 7 0 0;twins 0 1").above(60), 3);
        Calls.due("by less than GAP", Calls.townOf("town 2 90;person 8 0 0;person 7 0 0").above(60), 3);
    }

    /** Promise 19: "ABOVE; NONE without these, or a TOWN." */
    private static void aboveWithoutThese() {
        YoungerBench b = Towns.four();
        int[] wrong = {0, -1, 61, Integer.MAX_VALUE, Integer.MIN_VALUE};
        for (int n : wrong) {
            Calls.due("above(" + n + ")", b.above(n), -1);
            Calls.due("without a TOWN: above(" + n + ")", new YoungerBench().above(n), -1);
        }
        Calls.due("without a TOWN", new YoungerBench().above(1), -1);
        Calls.due("above(60)", b.above(60), 8);
    }

    private static void clement(String of, YoungerBench b, int... due) {
        for (int what = 0; what < 4; what++) {
            Calls.due(of + ": clement(0," + what + ")", b.clement(0, what), due[what]);
        }
    }

    /** "CLEMENT of a CASE: of those who CAN hear it from this DAY on the one with the least RIGHT," */
    private static void clementLeast() {
        YoungerBench b = Calls.townOf("town 1 10;person 900 0 0;person 15 5 0;person 17 3 0;person 950 0 9;case 0 1 1 0");
        clement("all", b, 2, 61, 1, 71);
        Calls.days(b, 3);
        clement("the least one has a BIRTHDAY", b, 1, 71, 1, 71);
        YoungerBench zero = Calls.townOf("town 1 10;person 900 0 0;person 15 0 9;person 17 3 0;case 0 9 1 0");
        clement("RIGHT 0", zero, 1, 0, 2, 29);
    }

    /** "and the one with the greatest;" */
    private static void clementGreatest() {
        YoungerBench b = Calls.townOf("town 1 10;person 900 0 0;person 15 5 0;person 17 3 0;person 950 9 0;case 0 1 1 0");
        Calls.days(b, 5);
        clement("the greatest one has a BIRTHDAY", b, 2, 61, 2, 61);
        YoungerBench most = Calls.ruledBy("town 1 10;person 900 0 0;person 15 5 0;person 17 3 0;case 0 1 1 0", "right wit*20");
        clement("RIGHT 100", most, 2, 60, 1, 100);
        most.hear(0, 2);
        most.day();
        clement("ruled by them, the elder one CAN all the same", most, 2, 60, 1, 100);
    }

    /** "of several the least." */
    private static void clementSeveral() {
        YoungerBench b = Calls.townOf("town 1 10;person 15 5 0;person 17 5 0;person 16 3 0;person 14 3 0;person 900 0 0;case 4 1 1 0");
        clement("0 and 1, 2 and 3", b, 2, 61, 0, 71);
        clement("all the same", Calls.ruledBy("town 1 10;person 15 5 0;person 17 5 0;person 900 0 0;case 2 1 1 0", "right 7"), 0, 7, 0, 7);
    }

    /** Promise 21: "CLEMENT what 0: who, 1: RIGHT of the least one, 2: who, 3: RIGHT of the greatest one; -2: nobody CAN." */
    private static void clementNobody() {
        YoungerBench b = Calls.townOf("town 1 10;person 900 0 0;person 11 3 0;case 0 1 1 1");
        clement("not yet", b, -2, -2, -2, -2);
        b.day();
        clement("one alone", b, 1, 61, 1, 61);
        Calls.days(b, 8);
        clement("a BIRTHDAY", b, -2, -2, -2, -2);
    }

    /** Promise 21: "NONE without these." */
    private static void clementWithoutThese() {
        YoungerBench b = Towns.four();
        int[] whats = {-1, 4, Integer.MAX_VALUE, Integer.MIN_VALUE};
        for (int what : whats) {
            Calls.due("clement(0," + what + ")", b.clement(0, what), -1);
            Calls.due("nobody CAN: clement(1," + what + ")", b.clement(1, what), -1);
        }
        int[] trials = {-1, 3, 6, Integer.MAX_VALUE, Integer.MIN_VALUE};
        for (int trial : trials) {
            Calls.due("clement(" + trial + ",0)", b.clement(trial, 0), -1);
        }
        Calls.due("without a TOWN", new YoungerBench().clement(0, 0), -1);
    }
}
