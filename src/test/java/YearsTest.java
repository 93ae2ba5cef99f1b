/** Promises 25 and 26: seed, years. */
public final class YearsTest {
    public static void main(String[] args) {
        seeds();
        byHand();
        whatStays();
        wrongOnes();
        Calls.close();
    }

    private static void seeds() {
        YoungerBench b = new YoungerBench();
        Calls.due("0 at first", b.seed(5), 0);
        Calls.due("what it was", b.seed(Integer.MAX_VALUE), 5);
        Calls.due("below 0", b.seed(-1), -1);
        Calls.due("below 0", b.seed(Integer.MIN_VALUE), -1);
        Calls.due("x", b.count(13), Integer.MAX_VALUE);
        Calls.due("what it was", b.seed(0), Integer.MAX_VALUE);
    }

    private static void years(YoungerBench b, int m, int n, int rightly, int ruled) {
        Calls.due("years(" + m + "," + n + ",0)", b.years(m, n, 0), rightly);
        Calls.due("years(" + m + "," + n + ",1)", b.years(m, n, 1), ruled);
    }

    /**
     * The DRAWS from 0 on: 0 21468 9988 22117 3498, 16927 16045, 19741 12122, 8410 12261, 27052 5659 9758, 21087.
     * The first time 0 is drawn on three DAYS, who may hear none; on DAY 3 judge 1 begins CASE 0 (70), on DAY 4 judge 2
     * CASE 2 (41); both are ruled: 27 is below 70, 45 not below 41. The second time judge 1 begins CASE 0 on DAY 0,
     * judge 2 CASE 2 on DAY 1; both are ruled: 10 is below 70, 61 not below 41; 0 may none; judge 3 hears CASE 0 again
     * on DAY 3 (77), judge 2 may none; it is ruled: 87 is not below 77.
     */
    private static void byHand() {
        YoungerBench b = Towns.four();
        years(b, 1, 4, 0, 0);
        years(b, 1, 5, 1, 2);
        years(b, 2, 5, 2, 5);
        b.seed(1406932606);
        // the DRAWS are 9988 and so on: judge 1 comes on DAY 1, judge 2 on DAY 2, and so on
        years(b, 1, 3, 1, 2);
        YoungerBench sure = Calls.townOf("town 1 90;person 80 0 0;person 10 3 0;case 0 1 1 0;case 0 1 1 0");
        Calls.rule(sure, "right 100");
        Calls.rule(sure, "right 0");
        sure.force(0);
        years(sure, 10, 50, 20, 20);
        sure.force(1);
        years(sure, 10, 50, 0, 20);
        // what is heard now is ruled with what it was begun with
        sure.hear(0, 1);
        sure.force(0);
        years(sure, 10, 50, 10, 20);
    }

    private static void whatStays() {
        YoungerBench b = Towns.four();
        b.hear(0, 1);
        b.seed(77);
        b.years(10, 99, 0);
        int[] due = {10, 20, 4, 3, 0, -1, 0, 1, 0, 5, 90, 0, 1, 77, 0};
        for (int what = 0; what < due.length; what++) {
            Calls.due("count(" + what + ")", b.count(what), due[what]);
        }
        Calls.due("days to go", b.trial(0, 5), 2);
        Calls.due("ruled none", b.person(1, 6), 0);
        Calls.due("hears it still", b.person(1, 5), 0);
        Calls.due("the same again", b.years(10, 99, 0), b.years(10, 99, 0));
        Calls.due("the hearing is undone", b.undo(), 0);
        Calls.due("not heard", b.count(7), 0);
    }

    private static void wrongOnes() {
        YoungerBench b = Towns.four();
        int[][] wrong = {{0, 1, 0}, {11, 1, 0}, {-1, 1, 0}, {1, 0, 0}, {1, 100, 0}, {1, -1, 0}, {1, 1, 2}, {1, 1, -1}};
        for (int[] w : wrong) {
            Calls.due("years(" + w[0] + "," + w[1] + "," + w[2] + ")", b.years(w[0], w[1], w[2]), -1);
        }
        years(Calls.townOf("town 1 5"), 10, 99, 0, 0);
    }
}
