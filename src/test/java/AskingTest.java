/** Promises 17 to 19 and 21: down, commit, above, clement. */
public final class AskingTest {
    public static void main(String[] args) {
        down();
        commit();
        above();
        clement();
        Calls.close();
    }

    private static void chain(YoungerBench b, int trial, int... due) {
        Calls.due("down(" + trial + ",0)", b.down(trial, 0), due.length);
        for (int place = 1; place <= 7; place++) {
            Calls.due("down(" + trial + "," + place + ")", b.down(trial, place), place <= due.length ? due[place - 1] : -2);
        }
    }

    private static void down() {
        YoungerBench b = Towns.four();
        chain(b, 0, 1, 2, 3);
        chain(b, 1);
        Calls.due("down(0,8)", b.down(0, 8), -1);
        Calls.due("down(0,-1)", b.down(0, -1), -1);
        Calls.due("down(3,0)", b.down(3, 0), -1);
        Calls.due("down(-1,0)", b.down(-1, 0), -1);
        b.day();
        chain(b, 1, 3);
        b.hear(0, 1);
        chain(b, 0, 1, 2, 3);
        Calls.days(b, 2);
        chain(b, 0, 2, 3);
        // judge 2 has a BIRTHDAY on DAY 7
        Calls.days(b, 3);
        chain(b, 0, 3);
        b.hear(0, 3);
        chain(b, 0, 3);
        Calls.days(b, 2);
        chain(b, 0);
        YoungerBench c = Calls.townOf("town 5 90;person 80 0 0;person 10 0 0;person 20 0 0;person 21 0 0;person 15 0 0;"
                + "person 11 0 0;person 16 0 0;case 0 1 1 0");
        // three deep go 2 4 1, 3 4 1, 3 6 1, 3 6 5: the first of these
        chain(c, 0, 2, 4, 1);
        c.hear(0, 2);
        c.day();
        chain(c, 0, 4, 1);
    }

    private static void commit() {
        YoungerBench b = Towns.four();
        // judge 3, 77 of 100, has a BIRTHDAY on DAY 12: on 11 and 12 judge 1 it is, 70
        Calls.due("11 days: the DAY", b.commit(0, 3, 2, 11, 0), 0);
        Calls.due("11 days: RIGHT", b.commit(0, 3, 2, 11, 1), 77);
        Calls.due("12 days: the DAY", b.commit(0, 3, 2, 12, 0), 11);
        Calls.due("12 days: RIGHT", b.commit(0, 3, 2, 12, 1), 70);
        // on 51 and 52 judge 3 has one again, judge 1 is too old, judge 2 is left, 53
        Calls.due("51 days", b.commit(0, 3, 2, 51, 0), 11);
        Calls.due("52 days", b.commit(0, 3, 2, 52, 0), 51);
        Calls.due("60 days: the DAY", b.commit(0, 3, 2, 60, 0), 51);
        Calls.due("60 days: RIGHT", b.commit(0, 3, 2, 60, 1), 53);
        Calls.due("nobody can", b.commit(3, 3, 2, 60, 0), 0);
        Calls.due("nobody can: RIGHT", b.commit(3, 3, 2, 60, 1), 0);
        Calls.due("judge 3 alone, the twin not", b.commit(1, 1, 1, 60, 0), 12);
        Calls.due("judge 3 alone", b.commit(1, 1, 1, 60, 1), 0);
        Calls.days(b, 2);
        Calls.due("from now on", b.commit(0, 3, 2, 9, 0), 2);
        Calls.due("from now on", b.commit(0, 3, 2, 10, 0), 11);
        Calls.rule(b, "right 60 - day + appeal * 40 + gravity + length + accused * 3 + judge");
        b.force(0);
        Calls.due("by the RULE: the DAY", b.commit(0, 3, 2, 9, 0), 10);
        Calls.due("by the RULE: RIGHT", b.commit(0, 3, 2, 9, 1), 58);
        Calls.due("person", b.commit(4, 1, 1, 1, 0), -1);
        Calls.due("person", b.commit(-1, 1, 1, 1, 0), -1);
        Calls.due("GRAVITY", b.commit(0, 0, 1, 1, 0), -1);
        Calls.due("GRAVITY", b.commit(0, 10, 1, 1, 0), -1);
        Calls.due("LENGTH", b.commit(0, 1, 0, 1, 0), -1);
        Calls.due("LENGTH", b.commit(0, 1, 10, 1, 0), -1);
        Calls.due("n", b.commit(0, 1, 1, 0, 0), -1);
        Calls.due("n", b.commit(0, 1, 1, 61, 0), -1);
        Calls.due("what", b.commit(0, 1, 1, 1, 2), -1);
        Calls.due("what", b.commit(0, 1, 1, 1, -1), -1);
    }

    private static void above() {
        YoungerBench b = Towns.four();
        Calls.due("the youngest", b.above(1), 8);
        Calls.due("the youngest", b.above(60), 8);
        Calls.due("n", b.above(0), -1);
        Calls.due("n", b.above(61), -1);
        Calls.days(b, 12);
        // judge 3 has a BIRTHDAY: 1 is tried by nobody, nor 2
        Calls.due("on a BIRTHDAY", b.above(1), 8 + 4 + 2);
        Calls.due("two days", b.above(2), 8);
        YoungerBench none = Calls.townOf("town 1 5");
        Calls.due("without PEOPLE", none.above(1), 0);
        YoungerBench young = Calls.townOf("town 1 50;bench 30 99;person 90 0 0;person 1 0 0");
        Calls.due("too young to sit on the DAYS 0 to 28", young.above(29), 3);
        Calls.due("not on DAY 29", young.above(30), 2);
        YoungerBench twins = Calls.townOf("town 1 50;person 90 0 0;person 1 0 0;twins 0 1");
        Calls.due("twins", twins.above(60), 3);
    }

    private static void clement() {
        YoungerBench b = Towns.four();
        int[] due = {2, 53, 3, 77};
        for (int what = 0; what < 4; what++) {
            Calls.due("clement(0," + what + ")", b.clement(0, what), due[what]);
            Calls.due("nobody can: " + what, b.clement(1, what), -2);
        }
        Calls.due("clement(0,4)", b.clement(0, 4), -1);
        Calls.due("clement(0,-1)", b.clement(0, -1), -1);
        Calls.due("clement(3,0)", b.clement(3, 0), -1);
        Calls.due("clement(-1,0)", b.clement(-1, 0), -1);
        b.hear(0, 3);
        Calls.days(b, 2);
        Calls.due("who ruled it is not asked", b.clement(0, 2), 3);
        Calls.rule(b, "right 5 + appeal");
        b.force(0);
        int[] same = {1, 6, 1, 6};
        for (int what = 0; what < 4; what++) {
            Calls.due("of several the least: " + what, b.clement(0, what), same[what]);
        }
        Calls.due("not ruled", b.clement(2, 1), 5);
    }
}
