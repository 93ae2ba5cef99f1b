import java.util.Random;

/** Runs of calls by draws, on the class and on the Oracle: each answer must be the same. */
public final class OracleTest {
    private static final int CALLS = 512;
    private final Random random;
    private final Texts texts;
    private final YoungerBench bench = new YoungerBench();
    private final Oracle oracle = new Oracle();
    private final int mostPeople;
    private final int mostCases;
    private final StringBuilder told = new StringBuilder();
    private int calls = 0;
    private boolean same = true;

    private OracleTest(long seed, int mostPeople, int mostCases) {
        random = new Random(seed);
        texts = new Texts(random);
        this.mostPeople = mostPeople;
        this.mostCases = mostCases;
    }

    private void due(String call, int got, int want) {
        calls++;
        told.append(call).append(" -> ").append(got).append('\n');
        if (got != want) {
            same = false;
            told.append("due is ").append(want).append('\n');
        }
    }

    private void tape(String full) {
        String text = full.length() > 400 ? full.substring(0, 400) : full;
        if (random.nextInt(4) != 0) {
            due("end(0)", bench.end(0), oracle.end(0));
        }
        told.append("\"").append(text).append("\"\n");
        for (int from = 0; from < text.length(); from += 20) {
            int[] n = Calls.numbers(text, from);
            due("feed", bench.feed(n[0], n[1], n[2], n[3], n[4]), oracle.feed(n[0], n[1], n[2], n[3], n[4]));
        }
        due("end", bench.end(text.length()), oracle.end(text.length()));
    }

    private void tellTown() {
        int kind = random.nextInt(8);
        String text = kind == 0 ? texts.crowd() : texts.town(mostPeople, mostCases);
        tape(kind < 3 ? texts.spoilt(text) : text);
        due("town()", bench.town(), oracle.town());
    }

    private void tellRule() {
        int kind = random.nextInt(8);
        String text = kind < 2 ? texts.edge() : texts.rule(4);
        tape(random.nextInt(5) == 0 ? texts.spoilt(text) : text);
        due("rule()", bench.rule(), oracle.rule());
    }

    /** A number from 0 to most, one a little beside them, or any. */
    private int some(int most) {
        int kind = random.nextInt(40);
        if (kind == 0) {
            return random.nextInt();
        }
        if (kind < 3) {
            return kind == 1 ? -1 - random.nextInt(2) : most + 1 + random.nextInt(2);
        }
        return random.nextInt(Math.max(1, most + 1));
    }

    private int someCase() {
        return some(oracle.count(3) - 1);
    }

    private int someone() {
        return some(oracle.count(2) - 1);
    }

    private void act() {
        int a = someCase();
        int b = someone();
        for (int i = 0; i < 8 && oracle.can(a, b, oracle.count(6)) != 1; i++) {
            a = someCase();
            b = someone();
        }
        switch (random.nextInt(8)) {
            case 0: case 1: case 2:
                due("day()", bench.day(), oracle.day());
                break;
            case 3: case 4: case 5:
                due("hear(" + a + "," + b + ")", bench.hear(a, b), oracle.hear(a, b));
                break;
            case 6:
                due("teach(" + b + ")", bench.teach(b), oracle.teach(b));
                break;
            default:
                due("undo()", bench.undo(), oracle.undo());
                break;
        }
    }

    private void tell() {
        int a = someCase();
        int b;
        int c;
        switch (random.nextInt(9)) {
            case 0: case 1:
                tellRule();
                break;
            case 2:
                if (random.nextInt(3) == 0) {
                    tellTown();
                }
                break;
            case 3:
                b = some(oracle.count(4)) - 1;
                due("force(" + b + ")", bench.force(b), oracle.force(b));
                break;
            case 4: case 5:
                b = some(7);
                c = some(random.nextInt(3) == 0 ? 9999 : b < 2 ? 300 : b < 4 ? 9 : b < 6 ? 60 : 100);
                due("fact(" + a + "," + b + "," + c + ")", bench.fact(a, b, c), oracle.fact(a, b, c));
                break;
            case 6:
                b = some(Integer.MAX_VALUE - 2);
                due("seed(" + b + ")", bench.seed(b), oracle.seed(b));
                break;
            case 7:
                b = some(3);
                due("image(" + b + ")", bench.image(b), oracle.image(b));
                break;
            default:
                b = some(3);
                if (random.nextInt(3) == 0) {
                    due("back(" + b + ")", bench.back(b), oracle.back(b));
                }
                break;
        }
    }

    private void ask() {
        int a = someCase();
        int b = someone();
        int c = some(9);
        int d = some(3);
        int e = some(1);
        switch (random.nextInt(14)) {
            case 0: due("person(" + b + "," + c + ")", bench.person(b, c), oracle.person(b, c)); break;
            case 1: due("trial(" + a + "," + c + ")", bench.trial(a, c), oracle.trial(a, c)); break;
            case 2:
                c = some(random.nextInt(4) == 0 ? 999 : 40);
                due("can(" + a + "," + b + "," + c + ")", bench.can(a, b, c), oracle.can(a, b, c));
                break;
            case 3: due("right(" + a + "," + b + ")", bench.right(a, b), oracle.right(a, b)); break;
            case 4: due("soonest(" + a + "," + b + ")", bench.soonest(a, b), oracle.soonest(a, b)); break;
            case 5: c = some(7); due("down(" + a + "," + c + ")", bench.down(a, c), oracle.down(a, c)); break;
            case 6:
                d = some(60);
                int g = some(9);
                due("commit(" + b + "," + g + "," + c + "," + d + "," + e + ")", bench.commit(b, g, c, d, e),
                        oracle.commit(b, g, c, d, e));
                break;
            case 7: d = some(60); due("above(" + d + ")", bench.above(d), oracle.above(d)); break;
            case 8: due("clement(" + a + "," + d + ")", bench.clement(a, d), oracle.clement(a, d)); break;
            case 9: due("who(" + a + "," + d + ")", bench.who(a, d), oracle.who(a, d)); break;
            case 10: due("look(" + a + "," + e + ")", bench.look(a, e), oracle.look(a, e)); break;
            case 11:
                c = some(10);
                d = some(99);
                due("years(" + c + "," + d + "," + e + ")", bench.years(c, d, e), oracle.years(c, d, e));
                break;
            case 12: c = some(14); due("count(" + c + ")", bench.count(c), oracle.count(c)); break;
            default: askRows(); break;
        }
    }

    /** The Oracle is slow at these: seldom where there are many rows. */
    private void askRows() {
        boolean many = oracle.open().size() == 4 && oracle.count(2) > 5;
        if (many && random.nextInt(25) != 0) {
            return;
        }
        int what = some(13);
        int e = some(1);
        if (random.nextInt(3) != 0) {
            due("benches(" + what + ")", bench.benches(what), oracle.benches(what));
        } else {
            due("lesson(" + e + ")", bench.lesson(e), oracle.lesson(e));
        }
    }

    private void lookAtAll() {
        for (int what = -1; what <= 15; what++) {
            due("count(" + what + ")", bench.count(what), oracle.count(what));
        }
        for (int i = -1; i <= oracle.count(2); i++) {
            for (int what = -1; what <= 8; what++) {
                due("person(" + i + "," + what + ")", bench.person(i, what), oracle.person(i, what));
            }
        }
        for (int i = -1; i <= oracle.count(3); i++) {
            for (int what = -1; what <= 10; what++) {
                due("trial(" + i + "," + what + ")", bench.trial(i, what), oracle.trial(i, what));
            }
        }
    }

    private boolean run() {
        int towns = random.nextInt(8) == 0 ? 60 : 0;
        if (random.nextInt(6) != 0) {
            tellTown();
        }
        while (same && calls < CALLS - 60) {
            int kind = random.nextInt(100);
            if (kind < 2 || kind < towns) {
                tellTown();
            } else if (kind < 25) {
                tell();
            } else if (kind < 60) {
                act();
            } else {
                ask();
            }
        }
        if (same && oracle.count(2) + oracle.count(3) < 2) {
            lookAtAll();
        }
        return same;
    }

    public static void main(String[] args) {
        int runs = args.length > 0 ? Integer.parseInt(args[0]) : 1000;
        long first = args.length > 1 ? Long.parseLong(args[1]) : 1;
        for (long seed = first; seed < first + runs; seed++) {
            boolean big = seed % 4 == 0;
            OracleTest test = new OracleTest(seed, big ? 7 : 5, big ? 6 : 4);
            boolean same = test.run();
            Calls.holds("the run by draws " + seed, same);
            if (!same) {
                System.out.println(test.told);
                break;
            }
        }
        Calls.close();
    }
}
