/** Boundary cases of AGE, BIRTHDAYS, CAN and RIGHT and of promises 7, 9 and 10; each remark tells the document's sentence. */
public final class BoundsLawTest {
    public static void main(String[] args) {
        ageOnADay();
        birthdays();
        notBeforeItCanBeHeard();
        youngerByGap();
        noTwin();
        ageToSitOnEachDay();
        noBirthday();
        notAsked();
        firstClause();
        noClause();
        heldTo100();
        withoutARule();
        partsOfAPerson();
        personBirthday();
        personHears();
        personSits();
        noPerson();
        canOrNot();
        canOnWhichDays();
        rightNow();
        rightWithoutThese();
        Calls.close();
    }

    /** "AGE on a DAY: that of DAY 0 and the DAY." */
    private static void ageOnADay() {
        YoungerBench b = Calls.townOf("town 1 5;person 0 0 0;person 9999 0 0");
        Calls.due("0 on DAY 0", b.person(0, 0), 0);
        Calls.due("9999 on DAY 0", b.person(1, 0), 9999);
        b.day();
        Calls.due("1 on DAY 1", b.person(0, 0), 1);
        Calls.due("10000 on DAY 1", b.person(1, 0), 10000);
        Calls.days(b, 99);
        Calls.due("100 on DAY 100", b.person(0, 0), 100);
        Calls.due("10099 on DAY 100", b.person(1, 0), 10099);
    }

    /** "One's BIRTHDAYS are the DAYS on which their AGE is a multiple of YEAR." */
    private static void birthdays() {
        YoungerBench b = Calls.townOf("town 1 5;person 50 0 0;person 0 0 0;person 4 0 0;person 5 0 0;person 6 0 0;case 0 1 1 0");
        int[][] can = {{0, 1, 1, 1, 1, 0}, {1, 0, 1, 1, 1, 1}, {0, 1, 1, 1, 1, 0}, {1, 1, 1, 1, 0, 1}};
        for (int p = 1; p <= 4; p++) {
            for (int day = 0; day <= 5; day++) {
                Calls.due("can(0," + p + "," + day + ")", b.can(0, p, day), can[p - 1][day]);
            }
        }
        YoungerBench late = Calls.townOf("town 1 99;person 9999 0 0;person 9900 0 0;person 9899 0 0;case 0 1 1 0");
        Calls.due("9900 is 100 times 99", late.can(0, 1, 0), 0);
        Calls.due("9899 is none", late.can(0, 2, 0), 1);
        Calls.due("9999 is 101 times 99", late.can(0, 1, 99), 0);
        Calls.due("9998 is none", late.can(0, 1, 98), 1);
    }

    /** "A judge CAN hear a CASE from a DAY on (that is not before it can be heard):" */
    private static void notBeforeItCanBeHeard() {
        YoungerBench b = Calls.townOf("town 1 90;person 500 0 0;person 101 0 0;case 0 1 1 0;case 0 1 1 5;case 0 1 1 99");
        Calls.due("from DAY 0 on", b.can(0, 1, 0), 1);
        Calls.due("the day before", b.can(1, 1, 4), 0);
        Calls.due("from DAY 5 on", b.can(1, 1, 5), 1);
        Calls.due("the day behind", b.can(1, 1, 6), 1);
        Calls.due("the day before", b.can(2, 1, 98), 0);
        Calls.due("from DAY 99 on", b.can(2, 1, 99), 1);
    }

    /** "they are younger than the accused by GAP or more," */
    private static void youngerByGap() {
        YoungerBench b = Calls.townOf("town 7 90;person 20 0 0;person 14 0 0;person 13 0 0;person 12 0 0;person 20 0 0;person 27 0 0;"
                + "case 0 1 1 0");
        int[] due = {0, 0, 1, 1, 0, 0};
        for (int p = 0; p < 6; p++) {
            Calls.due("judge " + p, b.can(0, p, 0), due[p]);
            Calls.due("judge " + p + " on another DAY", b.can(0, p, 30), due[p]);
        }
        YoungerBench c = Calls.townOf("town 99 5;person 9999 0 0;person 1 0 0;case 0 1 1 0");
        Calls.due("by 9998", c.can(0, 1, 0), 1);
    }

    /** "no twin of the accused," */
    private static void noTwin() {
        YoungerBench b = Calls.townOf("town 1 90;person 20 0 0;person 13 0 0;person 12 0 0;person 11 0 0;person 10 0 0;"
                + "twins 0 1;twins 2 0;twins 3 1;case 0 1 1 0;case 1 1 1 0");
        int[][] due = {{0, 0, 0, 1, 1}, {0, 0, 1, 0, 1}};
        for (int i = 0; i < 10; i++) {
            Calls.due("can(" + i / 5 + "," + i % 5 + ",0)", b.can(i / 5, i % 5, 0), due[i / 5][i % 5]);
        }
    }

    /** "of an AGE to sit on each of the LENGTH days from that DAY on," */
    private static void ageToSitOnEachDay() {
        YoungerBench b = Calls.townOf("town 1 90;bench 20 28;person 95 0 0;person 10 0 0;case 0 1 1 0;case 0 1 9 0;case 0 1 8 0");
        int[] days = {9, 10, 11, 12, 18, 19};
        int[][] due = {{0, 1, 1, 1, 1, 0}, {0, 1, 0, 0, 0, 0}, {0, 1, 1, 0, 0, 0}};
        for (int c = 0; c < 3; c++) {
            for (int i = 0; i < days.length; i++) {
                Calls.due("can(" + c + ",1," + days[i] + ")", b.can(c, 1, days[i]), due[c][i]);
            }
        }
        YoungerBench old = Calls.townOf("town 1 7;person 9999 0 0;person 9990 0 0;case 0 1 2 0;case 0 1 1 0");
        Calls.due("9998 and 9999", old.can(0, 1, 8), 1);
        Calls.due("9999 and 10000", old.can(0, 1, 9), 0);
        Calls.due("9999 alone", old.can(1, 1, 9), 1);
        Calls.due("10000", old.can(1, 1, 10), 0);
    }

    /** "none of which is a BIRTHDAY of theirs" */
    private static void noBirthday() {
        YoungerBench b = Calls.townOf("town 1 10;person 95 0 0;person 30 0 0;case 0 1 1 0;case 0 1 9 0;case 0 1 8 0;case 0 1 5 0");
        int[][] due = {{0, 1, 1, 1, 1, 1, 1, 1, 1, 1, 0, 1}, {0, 1, 0, 0, 0, 0, 0, 0, 0, 0, 0, 1},
            {0, 1, 1, 0, 0, 0, 0, 0, 0, 0, 0, 1}, {0, 1, 1, 1, 1, 1, 0, 0, 0, 0, 0, 1}};
        for (int c = 0; c < 4; c++) {
            for (int day = 0; day < 12; day++) {
                Calls.due("can(" + c + ",1," + day + ")", b.can(c, 1, day), due[c][day]);
            }
        }
        YoungerBench short9 = Calls.townOf("town 1 9;person 95 0 0;person 30 0 0;case 0 1 9 0;case 0 1 8 0");
        YoungerBench short5 = Calls.townOf("town 1 5;person 95 0 0;person 30 0 0;case 0 1 9 0;case 0 1 5 0");
        for (int day = 0; day < 20; day++) {
            Calls.due("nine days of a YEAR of 9", short9.can(0, 1, day), 0);
            Calls.due("eight days of a YEAR of 9", short9.can(1, 1, day), day % 9 == 7 ? 1 : 0);
            Calls.due("nine days of a YEAR of 5", short5.can(0, 1, day), 0);
            Calls.due("five days of a YEAR of 5", short5.can(1, 1, day), 0);
        }
        YoungerBench theirs = Calls.townOf("town 1 10;person 40 0 0;person 31 0 0;case 0 1 1 0");
        Calls.due("the BIRTHDAY of the accused is none of theirs", theirs.can(0, 1, 0), 1);
    }

    /** "(who hears what, and what is ruled, is not asked)." */
    private static void notAsked() {
        YoungerBench b = Towns.four();
        b.hear(0, 1);
        b.hear(2, 3);
        Calls.due("heard by them", b.can(0, 1, 0), 1);
        Calls.due("heard by another", b.can(0, 3, 0), 1);
        Calls.due("who hears another one", b.can(2, 1, 0), 1);
        b.day();
        Calls.due("ruled by them", b.can(2, 3, 1), 1);
        Calls.due("ruled by a younger one", b.can(2, 1, 1), 1);
        Calls.due("a DAY that has gone by", b.can(2, 3, 0), 1);
    }

    private static void right(String rule, int due) {
        Calls.due("\"" + rule + "\"", Calls.ruledBy(Towns.FOUR, rule).right(0, 1), due);
    }

    /** "RIGHT of a judge in a CASE on a DAY: by the RULE IN FORCE the SUM of its first CLAUSE without a TEST, or whose TEST holds" */
    private static void firstClause() {
        right("right 3;right 4", 3);
        right("right 3 if 1=1;right 4", 3);
        right("right 3 if 1=2;right 4", 4);
        right("right 3 if 1=2;right 4 if 1=1;right 5", 4);
        right("right 3;right 4 if 1=1", 3);
        right(Calls.times(11, "right 3 if 1=2;") + "right 4 if 1=1", 4);
    }

    /** "(0 without)," */
    private static void noClause() {
        right("right 3 if 1=2", 0);
        right("right 3 if 1=2;right 4 if not 1=1", 0);
        right(Calls.times(11, "right 3 if 1=2;") + "right 4 if 1=2", 0);
    }

    /** "held to 0 to 100;" */
    private static void heldTo100() {
        right("right 0", 0);
        right("right 0-1", 0);
        right("right 1", 1);
        right("right 99", 99);
        right("right 100", 100);
        right("right 101", 100);
        right("right 99999*99999", 100);
        right("right 0-99999*99999", 0);
        right("right 65536*32768", 100);
        right("right 65536*65536", 100);
        right("right 0-65536*65536+50", 0);
    }

    /** "without a RULE 50 and 5 times the WIT less 4 times the GRAVITY less 3 times the SWEETS, held likewise." */
    private static void withoutARule() {
        YoungerBench b = Calls.townOf("town 1 90;person 9 9 0;person 9 0 9;person 9 2 8;person 9 2 9;person 9 1 6;person 9 0 0;"
                + "case 0 1 1 0;case 0 9 1 0");
        int[] least = {91, 19, 32, 29, 33, 46};
        int[] gravest = {59, 0, 0, 0, 1, 14};
        for (int p = 0; p < 6; p++) {
            Calls.due("GRAVITY 1, judge " + p, b.right(0, p), least[p]);
            Calls.due("GRAVITY 9, judge " + p, b.right(1, p), gravest[p]);
        }
    }

    /** Promise 7: "Of a PERSON what 0: AGE now, 1: WIT, 2: SWEETS, 3: their twins, as bits," "6: how many they ruled," */
    private static void partsOfAPerson() {
        YoungerBench b = Calls.townOf("town 1 90;person 0 0 9;person 20 9 0;person 1 1 1;person 1 1 1;person 1 1 1;person 1 1 1;"
                + "person 11 1 1;twins 0 1;twins 0 6;twins 6 5;case 1 1 1 0;case 1 1 1 0");
        int[][] due = {{0, 0, 9, 66, 90, -1, 0, 1}, {20, 9, 0, 1, 70, -1, 0, 1}, {11, 1, 1, 33, 79, -1, 0, 1}};
        for (int i = 0; i < 24; i++) {
            int p = i < 16 ? i / 8 : 6;
            Calls.due("person(" + p + "," + i % 8 + ")", b.person(p, i % 8), due[i / 8][i % 8]);
        }
        b.hear(0, 6);
        Calls.due("heard, not ruled", b.person(6, 6), 0);
        b.day();
        b.hear(1, 6);
        b.day();
        Calls.due("ruled two", b.person(6, 6), 2);
        Calls.due("AGE now", b.person(6, 0), 13);
        b.teach(0);
        Calls.due("WIT now", b.person(0, 1), 1);
    }

    /** Promise 7: "4: days till their next BIRTHDAY (YEAR on it)," */
    private static void personBirthday() {
        YoungerBench b = Calls.townOf("town 1 99;person 0 0 0;person 1 0 0;person 98 0 0;person 99 0 0;person 9999 0 0");
        int[] till = {99, 98, 1, 99, 99};
        int[] next = {98, 97, 99, 98, 98};
        for (int p = 0; p < 5; p++) {
            Calls.due("of " + p, b.person(p, 4), till[p]);
        }
        b.day();
        for (int p = 0; p < 5; p++) {
            Calls.due("a day on, of " + p, b.person(p, 4), next[p]);
        }
    }

    /** Promise 7: "5: the CASE they hear (NONE)," */
    private static void personHears() {
        YoungerBench b = Towns.four();
        Calls.due("none", b.person(1, 5), -1);
        b.hear(0, 1);
        b.hear(2, 3);
        Calls.due("CASE 0", b.person(1, 5), 0);
        Calls.due("CASE 2", b.person(3, 5), 2);
        Calls.due("another one none", b.person(0, 5), -1);
        b.day();
        Calls.due("a day to go", b.person(1, 5), 0);
        Calls.due("ruled", b.person(3, 5), -1);
        b.day();
        b.hear(0, 3);
        Calls.due("an appeal", b.person(3, 5), 0);
    }

    /** Promise 7: "7: 1 if of an AGE to sit now, else 0." */
    private static void personSits() {
        YoungerBench b = Calls.townOf("town 1 5;bench 20 21;person 18 0 0;person 19 0 0;person 20 0 0;person 21 0 0;person 22 0 0");
        int[][] due = {{0, 0, 1, 1, 0}, {0, 1, 1, 0, 0}, {1, 1, 0, 0, 0}};
        for (int i = 0; i < 15; i++) {
            Calls.due("DAY " + i / 5 + ", " + i % 5, b.person(i % 5, 7), due[i / 5][i % 5]);
            if (i % 5 == 4) {
                b.day();
            }
        }
    }

    /** Promise 7: "NONE without these." */
    private static void noPerson() {
        YoungerBench b = Towns.four();
        int[] people = {-1, 4, 6, 7, 31, 32, Integer.MAX_VALUE, Integer.MIN_VALUE};
        for (int p : people) {
            Calls.due("person(" + p + ",0)", b.person(p, 0), -1);
            Calls.due("person(" + p + ",6)", b.person(p, 6), -1);
        }
        int[] whats = {-1, 8, Integer.MAX_VALUE, Integer.MIN_VALUE};
        for (int what : whats) {
            Calls.due("person(0," + what + ")", b.person(0, what), -1);
        }
        for (int what = 0; what < 8; what++) {
            Calls.due("without a TOWN", new YoungerBench().person(0, what), -1);
            Calls.due("without PEOPLE", Calls.townOf("town 1 5").person(0, what), -1);
        }
    }

    /** Promise 9: "Whether a judge CAN hear a CASE from a DAY on (0 to 999): 1, else 0;" */
    private static void canOrNot() {
        YoungerBench b = Calls.townOf("town 1 90;person 9999 0 0;person 1 0 0;case 0 1 1 0;case 0 1 9 0");
        Calls.due("DAY 0", b.can(0, 1, 0), 1);
        Calls.due("DAY 999", b.can(0, 1, 999), 1);
        Calls.due("DAY 989 is a BIRTHDAY", b.can(0, 1, 989), 0);
        Calls.due("nine days from DAY 999 on", b.can(1, 1, 999), 1);
    }

    /** Promise 9: "NONE without these." */
    private static void canOnWhichDays() {
        YoungerBench b = Towns.four();
        int[] days = {-1, 1000, Integer.MAX_VALUE, Integer.MIN_VALUE};
        for (int day : days) {
            Calls.due("DAY " + day, b.can(0, 1, day), -1);
        }
        int[] wrong = {-1, 4, 7, Integer.MAX_VALUE, Integer.MIN_VALUE};
        for (int i : wrong) {
            Calls.due("judge " + i, b.can(0, i, 0), -1);
            Calls.due("CASE " + i, b.can(i, 1, 0), -1);
        }
        Calls.due("CASE 3", b.can(3, 1, 0), -1);
        Calls.due("without a TOWN", new YoungerBench().can(0, 0, 0), -1);
        Calls.due("without CASES", Calls.townOf("town 1 5;person 1 1 1").can(0, 0, 0), -1);
    }

    /** Promise 10: "RIGHT of a judge in a CASE now;" */
    private static void rightNow() {
        YoungerBench b = Calls.ruledBy(Towns.FOUR, "right age+appeal*20+ruled*10");
        Calls.due("of who can't hear it", b.right(1, 0), 85);
        Calls.due("of the accused", b.right(0, 0), 85);
        Calls.due("on DAY 0", b.right(2, 3), 8);
        b.hear(2, 3);
        b.day();
        Calls.due("on DAY 1, ruled by them", b.right(2, 3), 39);
        Calls.due("ruled by another", b.right(2, 2), 54);
        Calls.due("not ruled", b.right(0, 3), 19);
    }

    /** Promise 10: "NONE without these." */
    private static void rightWithoutThese() {
        YoungerBench b = Towns.four();
        int[] wrong = {-1, 4, 7, Integer.MAX_VALUE, Integer.MIN_VALUE};
        for (int i : wrong) {
            Calls.due("judge " + i, b.right(0, i), -1);
            Calls.due("CASE " + i, b.right(i, 0), -1);
        }
        Calls.due("CASE 3", b.right(3, 0), -1);
        Calls.due("without a TOWN", new YoungerBench().right(0, 0), -1);
        Calls.due("without CASES", Calls.townOf("town 1 5;person 1 1 1").right(0, 0), -1);
    }
}
