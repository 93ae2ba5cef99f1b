/** What the tests share: texts brought onto the TAPE, and answers held against the due ones. */
final class Calls {
    private static int wrong = 0;
    private static int asked = 0;

    private Calls() {
    }

    static void due(String call, long got, long want) {
        asked++;
        if (got != want) {
            wrong++;
            System.out.println(call + " answered " + got + ", due is " + want);
        }
    }

    static void holds(String what, boolean so) {
        due(what, so ? 1 : 0, 1);
    }

    /** Ends the test: with 1 if an answer was not as due, or none was asked. */
    static void close() {
        System.out.println(wrong == 0 ? asked + " answers are as due" : wrong + " answers are not as due");
        if (wrong != 0 || asked == 0) {
            System.exit(1);
        }
    }

    /** The five numbers of a feed from a place of a text on, 0 behind its end. */
    static int[] numbers(String text, int from) {
        int[] numbers = new int[5];
        for (int i = 0; i < 20; i++) {
            int sign = from + i < text.length() ? text.charAt(from + i) : 0;
            numbers[i / 4] = numbers[i / 4] << 8 | sign & 255;
        }
        return numbers;
    }

    /** The TAPE is this text alone. */
    static void tape(YoungerBench bench, String text) {
        bench.end(0);
        for (int from = 0; from < text.length(); from += 20) {
            int[] n = numbers(text, from);
            bench.feed(n[0], n[1], n[2], n[3], n[4]);
        }
        int bytes = bench.end(text.length());
        if (bytes != text.length()) {
            due("the TAPE takes \"" + text + "\"", bytes, text.length());
        }
    }

    static int town(YoungerBench bench, String text) {
        tape(bench, text);
        return bench.town();
    }

    static int rule(YoungerBench bench, String text) {
        tape(bench, text);
        return bench.rule();
    }

    static YoungerBench townOf(String text) {
        YoungerBench bench = new YoungerBench();
        int people = town(bench, text);
        holds("the town is told: " + text, people >= 0);
        return bench;
    }

    /** What a call answers to a text with this FAULT. */
    static int fault(int place, int kind) {
        return -2 - (1 + 8 * place + kind);
    }

    /** A new object reads this TOWN: so many PEOPLE. */
    static void townReads(String text, int people) {
        due("town \"" + text + "\"", town(new YoungerBench(), text), people);
    }

    static void townFails(String text, int place, int kind) {
        due("town \"" + text + "\"", town(new YoungerBench(), text), fault(place, kind));
    }

    static void ruleReads(String text) {
        due("rule \"" + text + "\"", rule(new YoungerBench(), text), 0);
    }

    static void ruleFails(String text, int place, int kind) {
        due("rule \"" + text + "\"", rule(new YoungerBench(), text), fault(place, kind));
    }

    /** A TOWN with a RULE that is IN FORCE. */
    static YoungerBench ruledBy(String town, String rule) {
        YoungerBench bench = townOf(town);
        due("rule \"" + rule + "\"", rule(bench, rule), 0);
        bench.force(0);
        return bench;
    }

    static String times(int many, String text) {
        return text.repeat(many);
    }

    /** All that counts, PEOPLE and CASES tell, as one text, to see that nothing has happened. */
    static String all(YoungerBench bench) {
        StringBuilder all = new StringBuilder();
        for (int what = 0; what <= 14; what++) {
            all.append(bench.count(what)).append(' ');
        }
        int people = bench.count(2);
        int cases = bench.count(3);
        for (int i = 0; i < people * 8; i++) {
            all.append(i % 8 == 0 ? "| " : "").append(bench.person(i / 8, i % 8)).append(' ');
        }
        for (int i = 0; i < cases * 10; i++) {
            all.append(i % 10 == 0 ? "/ " : "").append(bench.trial(i / 10, i % 10)).append(' ');
        }
        return all.toString();
    }

    /** Nothing has happened since all() answered that. */
    static void stays(String call, String was, YoungerBench bench) {
        String is = all(bench);
        holds(call + ": nothing happens; it was " + was + "and is " + is, was.equals(is));
    }

    static void days(YoungerBench bench, int many) {
        for (int i = 0; i < many; i++) {
            bench.day();
        }
    }
}
