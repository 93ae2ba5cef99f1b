import java.lang.management.ManagementFactory;

/** The limits of a run: what 512 calls make stays small, and the dearest calls end soon. */
public final class RoomTest {
    private static final com.sun.management.ThreadMXBean THREADS =
            (com.sun.management.ThreadMXBean) ManagementFactory.getThreadMXBean();
    private static final String CROWDED = "town 1 99;person 990 1 0;person 101 2 0;person 102 3 1;person 103 4 2;person 104 5 3;"
            + "person 105 6 4;person 106 7 5;case 0 1 1 0;case 0 2 2 1;case 0 3 3 0;case 0 4 4 2";

    public static void main(String[] args) {
        dearest();
        anyArguments();
        Calls.close();
    }

    private static String longRule() {
        StringBuilder rule = new StringBuilder("right 1");
        for (int i = 1; i < 54; i++) {
            rule.append(i % 2 == 0 ? "+wit" : "+age");
        }
        return rule.append(" if wit>day;right age%50").toString();
    }

    private static long bytes() {
        return THREADS.getThreadAllocatedBytes(Thread.currentThread().getId());
    }

    private static void dearest() {
        YoungerBench b = Calls.townOf(CROWDED);
        Calls.due("the long RULE", Calls.rule(b, longRule()), 0);
        b.force(0);
        long before = bytes();
        long start = System.nanoTime();
        for (int i = 0; i < 100; i++) {
            b.lesson(i % 2);
            b.benches(i % 14);
            b.years(10, 99, 0);
            b.commit(0, 1, 1, 60, 0);
            b.look(0, 0);
        }
        long spent = bytes() - before;
        long seconds = (System.nanoTime() - start) / 1000000000L;
        Calls.holds("500 dear questions make " + spent + " bytes", spent < 20000);
        Calls.holds("500 dear questions take " + seconds + " seconds", seconds < 60);
        Calls.town(b, CROWDED);
        before = bytes();
        for (int i = 0; i < 100; i++) {
            b.image(i % 4);
            b.day();
            b.teach(i % 7);
            b.undo();
            b.back((i + 1) % 4);
        }
        spent = bytes() - before;
        Calls.holds("500 ACTS and IMAGES make " + spent + " bytes", spent < 60000);
        before = bytes();
        new YoungerBench();
        spent = bytes() - before;
        Calls.holds("a new one makes " + spent + " bytes", spent < 40000);
    }

    /** Nothing throws, whatever is asked, with a TOWN or without. */
    private static void anyArguments() {
        int[] some = {Integer.MIN_VALUE, -4, -3, -2, -1, 0, 1, 2, 5, 6, 7, 8, 13, 14, 60, 61, 99, 100, 999, 1000, 9999,
            10000, Integer.MAX_VALUE};
        YoungerBench none = new YoungerBench();
        YoungerBench four = Towns.four();
        for (YoungerBench b : new YoungerBench[] {none, four}) {
            for (int i : some) {
                for (int j : some) {
                    allWith(b, i, j);
                }
            }
        }
        Calls.holds("no call has thrown", true);
    }

    private static void allWith(YoungerBench b, int i, int j) {
        b.end(i);
        b.force(i);
        b.person(i, j);
        b.trial(i, j);
        b.can(i, j, i);
        b.can(0, i, j);
        b.right(i, j);
        b.hear(i, j);
        b.teach(i);
        b.soonest(i, j);
        b.benches(i);
        b.down(i, j);
        b.commit(0, 1, i, j, 0);
        b.commit(i, j, 1, 1, 0);
        b.commit(0, 1, 1, i, j);
        b.above(i);
        b.lesson(i);
        b.clement(i, j);
        b.fact(0, i, j);
        b.fact(i, j, 0);
        b.who(i, j);
        b.look(i, j);
        b.seed(i);
        b.years(1, i, j);
        b.years(i, j, 0);
        b.count(i);
        b.image(i);
        b.back(j);
    }
}
