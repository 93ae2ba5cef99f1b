/** Promises 15, 16 and 20: soonest, benches, lesson. */
public final class BenchesTest {
    public static void main(String[] args) {
        soonest();
        fourTown();
        whatIsAnswered();
        greatestRightFirst();
        leastLastDay();
        firstRow();
        gapsAreFilled();
        heardNow();
        byTheDay();
        hundredDays();
        fourAtMost();
        lessons();
        Calls.close();
    }

    private static void soonest() {
        YoungerBench b = Towns.four();
        Calls.due("at once", b.soonest(0, 1), 0);
        Calls.due("from DAY 1 on", b.soonest(1, 3), 1);
        Calls.due("a twin never", b.soonest(1, 2), -2);
        Calls.due("an elder one never", b.soonest(1, 0), -2);
        Calls.due("no such CASE", b.soonest(3, 0), -1);
        Calls.due("no such CASE", b.soonest(-1, 0), -1);
        Calls.due("no such judge", b.soonest(0, 4), -1);
        Calls.due("no such judge", b.soonest(0, -1), -1);
        b.hear(0, 1);
        Calls.days(b, 9);
        Calls.due("behind the BIRTHDAY, ruled or not", b.soonest(0, 1), 11);
        YoungerBench late = Calls.townOf("town 1 50;bench 111 200;person 900 0 0;person 11 0 0;person 12 0 0;case 0 1 1 0");
        Calls.due("DAY 100 is not looked at", late.soonest(0, 1), -2);
        Calls.due("DAY 99 is", late.soonest(0, 2), 99);
        late.day();
        Calls.due("DAY 100 is looked at then", late.soonest(0, 1), 100);
    }

    private static void row(YoungerBench b, String of, int right, int last, int[] cases, int[] judges, int[] days) {
        Calls.due(of + " RIGHT", b.benches(0), right);
        Calls.due(of + " last day", b.benches(1), last);
        for (int place = 0; place < 4; place++) {
            boolean there = place < cases.length;
            Calls.due(of + " CASE " + place, b.benches(2 + place), there ? cases[place] : -2);
            Calls.due(of + " judge " + place, b.benches(6 + place), there ? judges[place] : -2);
            Calls.due(of + " DAY " + place, b.benches(10 + place), there ? days[place] : -2);
        }
    }

    private static void fourTown() {
        YoungerBench b = Towns.four();
        // judge 3 is the best in each, and can hear them all without a break on the DAYS 0 to 5
        row(b, "four", 211, 5, new int[] {0, 1, 2}, new int[] {3, 3, 3}, new int[] {0, 2, 5});
        b.hear(0, 1);
        row(b, "then", 134, 3, new int[] {1, 2}, new int[] {3, 3}, new int[] {1, 0});
        Calls.due("nothing changes", b.count(6) + b.count(12) * 10 + b.count(7) * 100, 110);
        b.hear(2, 3);
        row(b, "last one", 69, 3, new int[] {1}, new int[] {3}, new int[] {1});
        b.day();
        b.hear(1, 3);
        row(b, "none", 0, -1, new int[0], new int[0], new int[0]);
    }

    private static void whatIsAnswered() {
        YoungerBench b = Towns.four();
        Calls.due("benches(-1)", b.benches(-1), -1);
        Calls.due("benches(14)", b.benches(14), -1);
        Calls.due("benches(MIN)", b.benches(Integer.MIN_VALUE), -1);
        YoungerBench none = Calls.townOf("town 1 5");
        row(none, "no CASES", 0, -1, new int[0], new int[0], new int[0]);
        Calls.due("no CASES benches(14)", none.benches(14), -1);
        YoungerBench never = Calls.townOf("town 10 20;person 50 0 0;person 11 0 0;case 0 1 1 0;case 1 1 1 0");
        for (int what = 0; what < 14; what++) {
            Calls.due("not all can be heard: " + what, never.benches(what), -2);
        }
        Calls.due("benches(14)", never.benches(14), -1);
    }

    private static void greatestRightFirst() {
        // judge 2 is better by 5, though all would end sooner if judge 1 heard one
        YoungerBench b = Calls.townOf("town 1 90;person 80 0 0;person 10 3 0;person 11 4 0;case 0 1 5 0;case 0 1 5 0");
        row(b, "better", 132, 9, new int[] {0, 1}, new int[] {2, 2}, new int[] {0, 5});
    }

    private static void leastLastDay() {
        YoungerBench b = Calls.townOf("town 1 90;person 80 0 0;person 10 3 0;person 11 3 0;case 0 1 5 0;case 0 1 2 0;case 0 1 3 0");
        // 5 of one, 2 and 3 of the other: the first such row is the one with the first judge ahead
        row(b, "even", 183, 4, new int[] {0, 1, 2}, new int[] {1, 2, 2}, new int[] {0, 0, 2});
    }

    private static void firstRow() {
        // before judge 1 alone; CASE 0 can be heard from DAY 5 on: CASE 1 goes in ahead of it in every row
        YoungerBench b = Calls.townOf("town 1 90;person 80 0 0;person 10 3 0;case 0 1 5 5;case 0 1 5 0");
        row(b, "first row", 122, 9, new int[] {0, 1}, new int[] {1, 1}, new int[] {5, 0});
        // here CASE 0 ahead would leave CASE 1 no place before DAY 8
        YoungerBench c = Calls.townOf("town 1 90;person 80 0 0;person 10 3 0;case 0 1 4 4;case 0 1 5 0");
        row(c, "second row", 122, 8, new int[] {1, 0}, new int[] {1, 1}, new int[] {0, 5});
    }

    private static void gapsAreFilled() {
        YoungerBench b = Calls.townOf("town 1 90;person 80 0 0;person 10 3 0;case 0 1 4 6;case 0 1 3 0;case 0 1 4 0;case 0 1 3 0");
        // 0: 6 to 9; 1: 0 to 2; 3: 3 to 5; 2 behind all: 10 to 13
        row(b, "gaps", 244, 13, new int[] {0, 1, 2, 3}, new int[] {1, 1, 1, 1}, new int[] {6, 0, 10, 3});
    }

    private static void heardNow() {
        YoungerBench b = Calls.townOf("town 1 90;person 80 0 0;person 10 3 0;case 0 1 4 0;case 0 1 3 0");
        b.hear(0, 1);
        row(b, "behind what is heard", 61, 6, new int[] {1}, new int[] {1}, new int[] {4});
        b.day();
        row(b, "the same a day on", 61, 6, new int[] {1}, new int[] {1}, new int[] {4});
        Calls.days(b, 3);
        row(b, "and ruled", 61, 6, new int[] {1}, new int[] {1}, new int[] {4});
        // what is heard now ends behind the row: the last day is the row's
        YoungerBench c = Calls.townOf("town 1 90;person 80 0 0;person 10 3 0;person 9 3 0;case 0 1 9 0;case 0 1 3 0");
        c.hear(0, 1);
        row(c, "the row's last day", 61, 2, new int[] {1}, new int[] {2}, new int[] {0});
    }

    private static void byTheDay() {
        YoungerBench b = Calls.townOf("town 1 90;person 80 0 0;person 10 3 0;person 9 3 0;case 0 1 2 0;case 0 2 2 0;case 0 3 2 0");
        Calls.rule(b, "right day * gravity + ruled * 50");
        b.force(0);
        // one behind the other before one judge; the gravest last
        row(b, "by the day", 16, 5, new int[] {0, 1, 2}, new int[] {1, 1, 1}, new int[] {0, 2, 4});
        b.hear(0, 2);
        Calls.days(b, 2);
        // 2 has ruled one: 50 more in each
        row(b, "ruled as now", 2 * 2 + 4 * 3 + 100, 5, new int[] {1, 2}, new int[] {2, 2}, new int[] {2, 4});
    }

    private static void hundredDays() {
        YoungerBench b = Calls.townOf("town 1 99;person 980 0 0;person 1 3 0;case 0 1 9 90;case 0 1 9 99;case 0 1 1 0");
        // 1 is 99 on DAY 98: CASE 0 goes from DAY 99 on, and then CASE 1 begins too late, either way
        Calls.due("beyond 100 days", b.benches(0), -2);
        b.day();
        Calls.due("one day on", b.benches(0), -2);
        Calls.days(b, 8);
        Calls.due("nine days on", b.benches(0), 61 * 3);
        Calls.due("last day", b.benches(1), 116);
    }

    private static void fourAtMost() {
        YoungerBench b = Calls.townOf("town 1 90;person 80 0 0;person 10 3 0;case 0 1 1 0;case 0 1 1 0;case 0 1 1 0;case 0 1 1 0;"
                + "case 0 1 1 0");
        for (int what = 0; what < 14; what++) {
            Calls.due("more than 4: " + what, b.benches(what), -3);
        }
        Calls.due("benches(14)", b.benches(14), -1);
        Calls.due("lesson(0)", b.lesson(0), -3);
        Calls.due("lesson(1)", b.lesson(1), -3);
        Calls.due("lesson(2)", b.lesson(2), -1);
        b.hear(4, 1);
        row(b, "four", 244, 4, new int[] {0, 1, 2, 3}, new int[] {1, 1, 1, 1}, new int[] {1, 2, 3, 4});
    }

    private static void lessons() {
        YoungerBench b = Towns.four();
        // judge 3 knows all; nobody else comes near
        Calls.due("who", b.lesson(0), 0);
        Calls.due("how much", b.lesson(1), 211);
        Calls.due("lesson(-1)", b.lesson(-1), -1);
        Calls.due("lesson(2)", b.lesson(2), -1);
        YoungerBench c = Calls.townOf("town 1 90;person 80 0 0;person 10 3 0;person 9 3 0;case 0 1 2 0;case 0 2 2 0");
        Calls.due("who", c.lesson(0), 1);
        Calls.due("how much", c.lesson(1), 66 + 62);
        Calls.due("WIT stays", c.person(1, 1), 3);
        Calls.due("no ACT", c.count(12), 0);
        Calls.due("BENCHES stay", c.benches(0), 61 + 57);
        YoungerBench wise = Calls.townOf("town 1 90;person 80 9 0;person 10 9 0;case 0 1 2 0");
        Calls.due("nobody can be taught", wise.lesson(0), -2);
        Calls.due("nobody can be taught", wise.lesson(1), -2);
        YoungerBench never = Calls.townOf("town 1 90;person 80 1 0;person 10 1 0;case 1 1 2 0");
        Calls.due("not all can be heard", never.lesson(0), -2);
        Calls.due("not all can be heard", never.lesson(1), -2);
        YoungerBench none = Calls.townOf("town 1 90;person 80 9 0;person 10 1 0");
        Calls.due("no CASES: the least that can be", none.lesson(0), 1);
        Calls.due("no CASES", none.lesson(1), 0);
        YoungerBench nobody = Calls.townOf("town 1 90");
        Calls.due("nobody", nobody.lesson(0), -2);
        Calls.due("nobody", nobody.lesson(1), -2);
    }
}
