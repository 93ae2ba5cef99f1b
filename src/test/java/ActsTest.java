/** Promises 7 to 9 and 11 to 14: person, trial, can, day, hear, teach, undo. */
public final class ActsTest {
    public static void main(String[] args) {
        people();
        trials();
        can();
        hearings();
        appeals();
        ageOfTheDayThatWentBy();
        rightAsBegun();
        teaching();
        undoing();
        twentyAtMost();
        Calls.close();
    }

    private static void people() {
        YoungerBench b = Towns.four();
        int[] till = {15, 10, 7, 12};
        for (int p = 0; p < 4; p++) {
            Calls.due("till birthday of " + p, b.person(p, 4), till[p]);
            Calls.due("hears none " + p, b.person(p, 5), -1);
            Calls.due("ruled none " + p, b.person(p, 6), 0);
            Calls.due("sits " + p, b.person(p, 7), 1);
        }
        Calls.due("person(4,0)", b.person(4, 0), -1);
        Calls.due("person(-1,0)", b.person(-1, 0), -1);
        Calls.due("person(0,8)", b.person(0, 8), -1);
        Calls.due("person(0,-1)", b.person(0, -1), -1);
        Calls.days(b, 7);
        Calls.due("AGE then", b.person(2, 0), 40);
        Calls.due("YEAR on it", b.person(2, 4), 20);
        Calls.due("at 92", b.person(0, 7), 0);
        b.undo();
        b.undo();
        Calls.due("at 90", b.person(0, 7), 1);
        b.day();
        Calls.due("at 91", b.person(0, 7), 0);
        YoungerBench young = Calls.townOf("town 1 5;bench 3 9;person 2 0 0;person 0 0 0");
        Calls.due("too young", young.person(0, 7), 0);
        Calls.due("AGE 0 is a BIRTHDAY", young.person(1, 4), 5);
        young.day();
        Calls.due("old enough", young.person(0, 7), 1);
    }

    private static void trials() {
        YoungerBench b = Towns.four();
        int[] due = {1, 5, 3, 1, -1, 0, -1, -1, -1, 0};
        for (int what = 0; what < 10; what++) {
            Calls.due("trial(1," + what + ")", b.trial(1, what), due[what]);
        }
        Calls.due("trial(3,0)", b.trial(3, 0), -2);
        Calls.due("trial(-1,0)", b.trial(-1, 0), -2);
        Calls.due("trial(0,10)", b.trial(0, 10), -2);
        Calls.due("trial(0,-1)", b.trial(0, -1), -2);
    }

    private static void can() {
        YoungerBench b = Towns.four();
        Calls.due("not oneself", b.can(0, 0, 0), 0);
        Calls.due("young enough", b.can(0, 1, 0), 1);
        // judge 1 is 60 on DAY 10: of two days neither may be that one
        int[] ofTwo = {1, 0, 0, 1};
        for (int i = 0; i < 4; i++) {
            Calls.due("can(0,1," + (8 + i) + ")", b.can(0, 1, 8 + i), ofTwo[i]);
        }
        // judge 1 is 90 on DAY 40
        Calls.due("up to the last AGE", b.can(0, 1, 39), 1);
        Calls.due("beyond it", b.can(0, 1, 40), 0);
        Calls.due("one day alone", b.can(2, 1, 40), 1);
        Calls.due("a twin", b.can(1, 2, 5), 0);
        Calls.due("before it can be heard", b.can(1, 3, 0), 0);
        Calls.due("from then on", b.can(1, 3, 1), 1);
        Calls.due("an elder one", b.can(1, 0, 5), 0);
        Calls.due("DAY 999", b.can(0, 1, 999), 0);
        Calls.due("DAY 1000", b.can(0, 1, 1000), -1);
        Calls.due("DAY -1", b.can(0, 1, -1), -1);
        Calls.due("no such CASE", b.can(3, 1, 0), -1);
        Calls.due("no such CASE", b.can(-1, 1, 0), -1);
        Calls.due("no such judge", b.can(0, 4, 0), -1);
        Calls.due("no such judge", b.can(0, -1, 0), -1);
        b.hear(0, 1);
        Calls.due("who hears what is not asked", b.can(0, 1, 0), 1);
        Calls.days(b, 3);
        Calls.due("what is ruled, and the past, is not asked", b.can(0, 1, 0), 1);
        YoungerBench gap = Calls.townOf("town 10 50;bench 9 99;person 30 0 0;person 20 0 0;person 21 0 0;person 8 0 0;case 0 1 1 0;"
                + "case 0 1 9 0;case 1 1 9 0");
        Calls.due("younger by GAP", gap.can(0, 1, 0), 1);
        Calls.due("by one less", gap.can(0, 2, 0), 0);
        Calls.due("too young to sit", gap.can(2, 3, 0), 0);
        Calls.due("old enough", gap.can(2, 3, 1), 1);
        Calls.due("BIRTHDAY behind the last day", gap.can(1, 1, 21), 1);
        Calls.due("BIRTHDAY on the last day", gap.can(1, 1, 22), 0);
        Calls.due("BIRTHDAY on the first day", gap.can(1, 1, 30), 0);
        Calls.due("the day behind it", gap.can(1, 1, 31), 1);
        YoungerBench short5 = Calls.townOf("town 1 5;person 30 0 0;person 21 0 0;case 0 1 4 0;case 0 1 5 0");
        Calls.due("four days of a year of five", short5.can(0, 1, 0), 1);
        Calls.due("five days of a year of five", short5.can(1, 1, 0), 0);
    }

    private static void hearings() {
        YoungerBench b = Towns.four();
        Calls.due("who can't", b.hear(0, 0), -1);
        Calls.due("not yet", b.hear(1, 3), -1);
        Calls.due("no such CASE", b.hear(3, 1), -1);
        Calls.due("no such judge", b.hear(0, 4), -1);
        Calls.due("no such judge", b.hear(0, -1), -1);
        Calls.due("none of these is an ACT", b.count(12), 0);
        Calls.due("hear", b.hear(0, 1), 70);
        Calls.due("who hears it", b.trial(0, 4), 1);
        Calls.due("days to go", b.trial(0, 5), 2);
        Calls.due("not ruled", b.trial(0, 7), -1);
        Calls.due("the CASE they hear", b.person(1, 5), 0);
        Calls.due("heard, as bits", b.count(7), 1);
        Calls.due("heard already", b.hear(0, 3), -1);
        Calls.due("the judge hears one already", b.hear(2, 1), -1);
        Calls.due("another judge", b.hear(2, 3), 65);
        Calls.due("heard, as bits", b.count(7), 5);
        Calls.due("a day", b.day(), 1);
        Calls.due("DAY", b.count(6), 1);
        Calls.due("one day less", b.trial(0, 5), 1);
        Calls.due("heard, as bits", b.count(7), 1);
        Calls.due("ruled, as bits", b.count(8), 4);
        int[] due = {0, 6, 1, 0, -1, 0, 3, 65, 8, 1};
        for (int what = 0; what < 10; what++) {
            Calls.due("trial(2," + what + ")", b.trial(2, what), due[what]);
        }
        Calls.due("how many they ruled", b.person(3, 6), 1);
        Calls.due("free again", b.person(3, 5), -1);
        Calls.due("CASE 1", b.hear(1, 3), 69);
        Calls.due("a day", b.day(), 1);
        Calls.due("ruled by", b.trial(0, 6), 1);
        Calls.due("AGE on the DAY it was ruled", b.trial(0, 8), 51);
        Calls.due("a day", b.day(), 0);
        Calls.due("a day", b.day(), 1);
        Calls.due("that AGE stays", b.trial(0, 8), 51);
        Calls.due("ruled, as bits", b.count(8), 7);
        Calls.due("how many they ruled", b.person(3, 6), 2);
        YoungerBench none = Calls.townOf("town 1 5");
        Calls.due("a day without PEOPLE", none.day(), 0);
        Calls.due("DAY", none.count(6), 1);
        YoungerBench two = Calls.townOf("town 1 50;person 40 0 0;person 11 0 0;person 11 0 0;case 0 1 1 0;case 0 1 1 0");
        two.hear(0, 1);
        two.hear(1, 2);
        Calls.due("two on one day", two.day(), 2);
    }

    private static void appeals() {
        YoungerBench b = Towns.four();
        b.hear(0, 2);
        Calls.days(b, 2);
        Calls.due("not before the same one", b.hear(0, 2), -1);
        Calls.due("not before an elder one", b.hear(0, 1), -1);
        Calls.due("before a younger one", b.hear(0, 3), 77);
        Calls.due("who ruled it last", b.trial(0, 6), 2);
        Calls.due("how RIGHT it was", b.trial(0, 7), 53);
        Calls.due("AGE on the DAY it was ruled", b.trial(0, 8), 34);
        Calls.due("how often", b.trial(0, 9), 1);
        Calls.due("who hears it", b.trial(0, 4), 3);
        Calls.due("heard and ruled", b.count(7) * 10 + b.count(8), 11);
        Calls.days(b, 2);
        Calls.due("who ruled it last", b.trial(0, 6), 3);
        Calls.due("how RIGHT it is", b.trial(0, 7), 77);
        Calls.due("AGE then", b.trial(0, 8), 11);
        Calls.due("how often", b.trial(0, 9), 2);
        Calls.due("both ruled one", b.person(2, 6) * 10 + b.person(3, 6), 11);
        Calls.due("nobody is younger", b.hear(0, 3), -1);
        // younger than the accused by GAP, than who ruled it by less
        YoungerBench c = Calls.townOf("town 10 90;person 40 0 0;person 20 1 0;person 11 2 0;person 10 3 0;case 0 1 1 0");
        c.hear(0, 1);
        c.day();
        Calls.due("younger by 9 than who ruled it", c.hear(0, 2), -1);
        Calls.due("younger by 10", c.hear(0, 3), 61);
    }

    /** A CASE is ruled on the last of its days, not on the one that it is once that has gone by. */
    private static void ageOfTheDayThatWentBy() {
        YoungerBench b = Calls.townOf("town 1 9;person 250 0 0;person 10 5 0;person 5 3 0;case 0 1 1 0;case 0 1 2 0;case 0 1 8 1");
        b.hear(0, 1);
        Calls.due("heard, not ruled", b.trial(0, 8), -1);
        b.day();
        Calls.due("one day alone", b.trial(0, 8), 10);
        Calls.due("AGE now", b.person(1, 0), 11);
        b.day();
        Calls.due("the last two days ahead of a BIRTHDAY", b.hear(1, 2), 61);
        Calls.days(b, 2);
        Calls.due("AGE ahead of the BIRTHDAY", b.trial(1, 8), 8);
        Calls.due("the BIRTHDAY now", b.person(2, 4), 9);
        Calls.days(b, 5);
        Calls.due("all days between two BIRTHDAYS", b.hear(2, 1), 71);
        Calls.days(b, 7);
        Calls.due("a day to go", b.trial(2, 8), -1);
        Calls.due("the last of them", b.day(), 1);
        Calls.due("AGE ahead of the BIRTHDAY", b.trial(2, 8), 26);
        b.undo();
        Calls.due("undone", b.trial(2, 8), -1);
        b.day();
        b.day();
        Calls.due("that AGE again, and it stays", b.trial(2, 8), 26);
        Calls.due("the first one stays, too", b.trial(0, 8), 10);
    }

    private static void rightAsBegun() {
        YoungerBench b = Towns.four();
        Calls.rule(b, "right wit * 10 + day + ruled * 20");
        b.force(0);
        b.day();
        Calls.due("as begun", b.hear(0, 2), 31);
        b.teach(2);
        b.force(-1);
        Calls.days(b, 2);
        Calls.due("as told when begun", b.trial(0, 7), 31);
        b.force(0);
        Calls.due("by what it is now", b.hear(2, 2), 63);
    }

    private static void teaching() {
        YoungerBench b = Towns.four();
        Calls.due("teach", b.teach(1), 8);
        Calls.due("teach", b.teach(1), 9);
        Calls.due("at 9", b.teach(1), -1);
        Calls.due("WIT", b.person(1, 1), 9);
        Calls.due("no such", b.teach(4), -1);
        Calls.due("no such", b.teach(-1), -1);
        Calls.due("ACTS", b.count(12), 2);
        Calls.due("RIGHT by WIT", b.right(0, 1), 80);
    }

    private static void undoing() {
        YoungerBench b = Towns.four();
        Calls.due("none can", b.undo(), -1);
        b.hear(2, 1);
        b.teach(2);
        b.day();
        Calls.due("ACTS", b.count(12), 3);
        b.fact(0, 0, 0);
        b.seed(5);
        Calls.rule(b, "right 1");
        b.force(0);
        Calls.due("the day", b.undo(), 2);
        Calls.due("DAY", b.count(6), 0);
        Calls.due("heard again", b.trial(2, 4), 1);
        Calls.due("days to go", b.trial(2, 5), 1);
        Calls.due("not ruled", b.trial(2, 6) * 10 + b.trial(2, 9), -10);
        Calls.due("AGE of the ruling", b.trial(2, 8), -1);
        Calls.due("ruled none", b.person(1, 6), 0);
        Calls.due("WIT", b.person(2, 1), 4);
        Calls.due("the lesson", b.undo(), 1);
        Calls.due("WIT", b.person(2, 1), 3);
        Calls.due("the hearing", b.undo(), 0);
        Calls.due("not heard", b.count(7), 0);
        Calls.due("none can", b.undo(), -1);
        Calls.due("FACTS, x and the RULE are no ACTS", b.count(11) * 100 + b.count(13) * 10 + b.count(5), 150);
        b.day();
        b.hear(2, 1);
        b.undo();
        Calls.due("another ACT then", b.hear(0, 3), 1);
        Calls.due("and undone", b.undo(), 1);
    }

    private static void twentyAtMost() {
        YoungerBench b = Towns.four();
        for (int i = 1; i <= 25; i++) {
            b.day();
            Calls.due("ACTS", b.count(12), Math.min(i, 20));
        }
        for (int i = 19; i >= 0; i--) {
            Calls.due("undo", b.undo(), i);
        }
        Calls.due("undo", b.undo(), -1);
        Calls.due("DAY", b.count(6), 5);
        for (int i = 0; i < 30; i++) {
            b.day();
            b.undo();
            b.day();
        }
        Calls.due("DAY", b.count(6), 35);
        Calls.due("ACTS", b.count(12), 20);
        b.undo();
        Calls.due("DAY", b.count(6), 34);
    }
}
