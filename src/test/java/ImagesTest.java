/** Promises 27 to 29: count, image, back. */
public final class ImagesTest {
    public static void main(String[] args) {
        counts();
        goingBack();
        withoutTown();
        ofAnotherTown();
        Calls.close();
    }

    private static void counts() {
        YoungerBench b = Towns.four();
        Calls.due("count(-1)", b.count(-1), -1);
        Calls.due("count(15)", b.count(15), -1);
        Calls.due("count(MAX)", b.count(Integer.MAX_VALUE), -1);
        Calls.rule(b, "right 40");
        Calls.rule(b, "right 41");
        b.force(1);
        b.hear(0, 1);
        b.hear(2, 3);
        b.day();
        b.fact(0, 0, 0);
        b.seed(12);
        b.feed(0, 0, 0, 0, 0);
        b.end(13);
        int[] due = {10, 20, 4, 3, 2, 1, 1, 1, 4, 5, 90, 1, 3, 12, 13};
        for (int what = 0; what < due.length; what++) {
            Calls.due("count(" + what + ")", b.count(what), due[what]);
        }
    }

    private static void goingBack() {
        YoungerBench b = Towns.four();
        Calls.rule(b, "right 40");
        b.force(0);
        b.day();
        b.hear(0, 1);
        b.fact(0, 1, 50);
        b.seed(33);
        b.feed(0, 0, 0, 0, 0);
        Calls.due("never made", b.back(2), -1);
        Calls.due("image(2)", b.image(2), 1);
        Calls.due("ACTS stay", b.count(12), 2);
        Calls.days(b, 3);
        b.teach(2);
        b.fact(-1, 0, 0);
        b.fact(1, 2, 3);
        b.fact(1, 2, 4);
        b.seed(34);
        b.force(-1);
        b.end(0);
        Calls.rule(b, "right 50");
        b.feed(0, 0, 0, 0, 0);
        b.feed(0, 0, 0, 0, 0);
        Calls.due("back(2)", b.back(2), 1);
        int[] due = {10, 20, 4, 3, 2, 0, 1, 1, 0, 5, 90, 1, 0, 33, 40};
        for (int what = 0; what < due.length; what++) {
            Calls.due("then count(" + what + ")", b.count(what), due[what]);
        }
        Calls.due("WIT", b.person(2, 1), 3);
        Calls.due("days to go", b.trial(0, 5), 2);
        Calls.due("its FACT", b.who(0, 3), 14);
        Calls.due("its FACT", b.who(0, 0), 1 + 16 + 39);
        Calls.due("nothing can be UNDONE", b.undo(), -1);
        Calls.days(b, 2);
        Calls.due("as RIGHT as begun", b.trial(0, 7), 40);
        Calls.due("back again", b.back(2), 1);
        Calls.due("not ruled", b.trial(0, 7), -1);
        b.day();
        Calls.due("another in its place", b.image(2), 2);
        Calls.days(b, 4);
        Calls.due("back to it", b.back(2), 2);
        int[] wrong = {-1, 4, Integer.MAX_VALUE, Integer.MIN_VALUE};
        for (int k : wrong) {
            Calls.due("image(" + k + ")", b.image(k), -1);
            Calls.due("back(" + k + ")", b.back(k), -1);
        }
        Calls.due("never made", b.back(0), -1);
        Calls.due("never made", b.back(1), -1);
        Calls.due("never made", b.back(3), -1);
        b.day();
        Calls.due("back that is none leaves ACTS", b.back(3) + b.count(12), 0);
    }

    private static void withoutTown() {
        YoungerBench b = new YoungerBench();
        b.seed(9);
        Calls.due("without a TOWN", b.image(0), 0);
        Calls.town(b, Towns.FOUR);
        b.day();
        Calls.due("image(3)", b.image(3), 1);
        Calls.due("back to none", b.back(0), 0);
        Calls.due("no TOWN", b.count(9), -1);
        Calls.due("no PEOPLE", b.count(2), 0);
        Calls.due("x", b.count(13), 9);
        Calls.due("no day", b.day(), -1);
        Calls.due("no BENCHES", b.benches(0), -1);
        Calls.due("back to the TOWN", b.back(3), 1);
        Calls.due("PEOPLE", b.count(2), 4);
    }

    private static void ofAnotherTown() {
        YoungerBench b = Towns.four();
        b.image(1);
        Calls.town(b, "town 2 6;person 9 9 9");
        b.day();
        Calls.due("back to the first TOWN", b.back(1), 0);
        int[] due = {10, 20, 4, 3, 0, -1, 0, 0, 0, 5, 90, 0, 0, 0, 0};
        for (int what = 0; what < due.length; what++) {
            Calls.due("count(" + what + ")", b.count(what), due[what]);
        }
        Calls.due("its twins", b.person(1, 3), 4);
        Calls.due("its CASES", b.trial(1, 2), 3);
        Calls.due("its BENCHES", b.benches(0), 211);
    }
}
