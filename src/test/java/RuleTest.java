/** Promises 5, 6 and 10: rule, force, right: the language of RULES, its FAULTS, and what it answers. */
public final class RuleTest {
    public static void main(String[] args) {
        withoutRule();
        sums();
        words();
        tests();
        clauses();
        places();
        deep();
        values();
        sixRules();
        forces();
        Calls.close();
    }

    private static void withoutRule() {
        YoungerBench b = Towns.four();
        int[][] due = {{63, 70, 53, 77}, {55, 62, 45, 69}, {51, 58, 41, 65}};
        for (int c = 0; c < 3; c++) {
            for (int p = 0; p < 4; p++) {
                Calls.due("right(" + c + "," + p + ")", b.right(c, p), due[c][p]);
            }
        }
        Calls.due("right(3,0)", b.right(3, 0), -1);
        Calls.due("right(-1,0)", b.right(-1, 0), -1);
        Calls.due("right(0,4)", b.right(0, 4), -1);
        Calls.due("right(0,-1)", b.right(0, -1), -1);
        YoungerBench held = Calls.townOf("town 1 5;person 9 0 9;case 0 9 1 0");
        Calls.due("held to 0", held.right(0, 0), 0);
    }

    private static void right(String rule, int due) {
        YoungerBench b = Towns.four();
        Calls.due("rule \"" + rule + "\"", Calls.rule(b, rule), 0);
        b.force(0);
        Calls.due("\"" + rule + "\"", b.right(0, 1), due);
    }

    private static void sums() {
        right("right 0", 0);
        right("right 100", 100);
        right("right 101", 100);
        right("right 99999", 100);
        right("right 1-2", 0);
        right("right 10-2-3", 5);
        right("right 10-2+3", 11);
        right("right 2+3*4", 14);
        right("right 2*3+4", 10);
        right("right 20/2*5", 50);
        right("right 100/7/2", 7);
        right("right 17%5*3", 6);
        right("right 50-7/2", 47);
        right("right 5/0+7", 7);
        right("right 5%0+7", 7);
        right("right 0/0+7%0+1", 1);
        right("  right  8 * 5 - 3 * 2 + 1  ", 35);
        right("right5+wit", 12);
        // 99999 to the fourth goes round five times: 7762279691451841921 is left
        right("right 99999*99999*99999*99999 % 100", 21);
        right("right 65536*65536*65536*65536 + 5", 5);
        right("right 65536*65536*65536*32768 + 5", 0);
        right("right 65536*65536*65536*32768 - 1", 100);
        // of judge 1 older is 35, of the other one to be judged it is below 0
        YoungerBench b = Towns.four();
        Calls.rule(b, "right 50 + older / 10");
        Calls.rule(b, "right 50 + older % 10");
        b.force(0);
        Calls.due("towards 0", b.right(1, 0), 47);
        b.force(1);
        Calls.due("its rest", b.right(1, 0), 45);
    }

    private static void words() {
        String[] words = {"judge", "wit", "age", "sweets", "accused", "gravity", "length", "older", "day", "ruled",
            "appeal", "birthday"};
        int[] atFirst = {3, 9, 8, 2, 0, 3, 2, 77, 0, 0, 0, 12};
        // judge 1 hears CASE 0 on the first two days, judge 3 CASE 1 on the DAYS 2 to 4
        int[] then = {3, 9, 13, 2, 0, 3, 2, 77, 5, 1, 1, 7};
        YoungerBench b = Towns.four();
        for (int i = 0; i < 6; i++) {
            Calls.rule(b, "right " + words[i]);
        }
        YoungerBench c = Towns.four();
        for (int i = 6; i < 12; i++) {
            Calls.rule(c, "right " + words[i]);
        }
        for (int i = 0; i < 12; i++) {
            (i < 6 ? b : c).force(i % 6);
            Calls.due(words[i], (i < 6 ? b : c).right(0, 3), atFirst[i]);
        }
        for (YoungerBench x : new YoungerBench[] {b, c}) {
            x.hear(0, 1);
            Calls.days(x, 2);
            x.hear(1, 3);
            Calls.days(x, 3);
        }
        for (int i = 0; i < 12; i++) {
            (i < 6 ? b : c).force(i % 6);
            Calls.due(words[i] + " then", (i < 6 ? b : c).right(0, 3), then[i]);
        }
        Calls.days(c, 7);
        c.force(5);
        Calls.due("birthday on it", c.right(0, 3), 20);
    }

    private static void test(String test, boolean so) {
        right("right 9 if " + test + ";right 4", so ? 9 : 4);
    }

    private static void tests() {
        test("1<2", true);
        test("2<2", false);
        test("2<=2", true);
        test("3<=2", false);
        test("2=2", true);
        test("2=3", false);
        test("2>=2", true);
        test("1>=2", false);
        test("3>2", true);
        test("2>2", false);
        test("0-1<0", true);
        test("65536*65536*65536*32768<0", true);
        test("1=1 or 1=2 and 1=2", true);
        test("1=2 and 1=2 or 1=1", true);
        test("[1=1 or 1=2] and 1=2", false);
        test("1=2 and [1=2 or 1=1]", false);
        test("1=2 or 1=1 and 1=1", true);
        test("1=2 or 1=2 or 1=1", true);
        test("1=1 and 1=1 and 1=2", false);
        test("1=1 and 1=2 or 1=2 and 1=1 or 1=1 and 1=1", true);
        test("not 1=2", true);
        test("not 1=2 and 1=2", false);
        test("not[1=2 and 1=2]", true);
        test("not not 1=2", false);
        test("not[not 1=1 or not 2=2]", true);
        test("[[[wit=7]]]", true);
        test("wit*2+1 > gravity*5-1", true);
    }

    private static void clauses() {
        right("right 1 if 1=2;right 2 if 1=2;right 3 if 1=1;right 4", 3);
        right("right 1 if 1=2;right 2", 2);
        right("right 1;right 2", 1);
        right("right 1 if 1=2", 0);
        right("right 200 if 1=1;right 3", 100);
        StringBuilder twelve = new StringBuilder("right 1 if 1=2");
        for (int i = 2; i <= 12; i++) {
            twelve.append(";right ").append(i).append(i < 12 ? " if 1=2" : "");
        }
        right(twelve.toString(), 12);
        wrong(twelve + " ; right 13", twelve.length() + 3, 4);
        wrong(twelve + ";", twelve.length() + 1, 0);
        wrong(twelve + ";rights 13", twelve.length() + 1, 0);
    }

    private static void wrong(String text, int place, int kind) {
        YoungerBench b = new YoungerBench();
        Calls.due("rule \"" + text + "\"", Calls.rule(b, text), Calls.fault(place, kind));
        Calls.due("no RULE", b.count(4), 0);
        Calls.due("the TAPE is empty behind a FAULT", b.count(14), 0);
    }

    private static void places() {
        wrong("", 0, 0);
        wrong("right", 5, 0);
        wrong("right ", 6, 0);
        wrong("rights 1", 0, 0);
        wrong("1", 0, 0);
        wrong("town 1 5", 0, 0);
        wrong("right x", 6, 0);
        wrong("right right", 6, 0);
        wrong("right 1;", 8, 0);
        wrong("right 1 right 2", 8, 0);
        wrong("right 1 2", 8, 0);
        wrong("right 5 %", 9, 0);
        wrong("right 5 % %", 10, 0);
        wrong("right -5", 6, 0);
        wrong("right [1]", 6, 0);
        wrong("right wits", 6, 0);
        wrong("right wit5", 9, 0);
        wrong("right 5wit", 7, 0);
        wrong("right if 1=1", 6, 0);
        wrong("right 1 if", 10, 0);
        wrong("right 1 if ;", 11, 0);
        wrong("right 1 if 1", 12, 0);
        wrong("right 1 if 1;", 12, 0);
        wrong("right 1 if 1 and 2=2", 13, 0);
        wrong("right 1 if wit = 1]", 18, 0);
        wrong("right 1 if [wit = 1", 19, 0);
        wrong("right 1 if [wit = 1;", 19, 0);
        wrong("right 1 if [wit] = 1", 15, 0);
        wrong("right 1 if wit = 1 = 1", 19, 0);
        wrong("right 1 if wit < = 1", 17, 0);
        wrong("right 1 if wit =< 1", 16, 0);
        wrong("right 1 if wit == 1", 16, 0);
        wrong("right 1 if wit <> 1", 16, 0);
        wrong("right 1 if wit = not 1", 17, 0);
        wrong("right 1 if 1=1 or", 17, 0);
        wrong("right 1 if or 1=1", 11, 0);
        wrong("right 1 if notnot 1=1", 11, 0);
        wrong("right 1 if 1=1 if 1=1", 15, 0);
        wrong("right 1 if 1=1 [1=1]", 15, 0);
        wrong("right 1+(2)", 8, 0);
        wrong("right 123456", 6, 1);
        wrong("right 000000", 6, 1);
        wrong("right 1 + 999999999999999999999", 10, 1);
        wrong("right 1 999999", 8, 0);
    }

    private static void deep() {
        String tenNots = "not not not not not not not not not not ";
        right("right 6 if " + tenNots + "1=1", 6);
        wrong("right 6 if " + tenNots + "not 1=1", 51, 2);
        wrong("right 6 if " + tenNots + "[1=1]", 51, 2);
        wrong("right 6 if " + tenNots + "x=1", 51, 0);
        right("right 6 if [[[[[[[[[[1=1]]]]]]]]]] and [not[1=2]]", 6);
        wrong("right 6 if [[[[[[[[[[[1=1]]]]]]]]]]]", 21, 2);
        wrong("right 6 if [[[[[[[[[[1=1 and not 1=2]]]]]]]]]]", 29, 2);
        right("right 6 if not[not[not[not[not[1=1]]]]];right 5", 5);
        wrong("right 6 if not[not[not[not[not[not 1=1]]]]]", 31, 2);
    }

    /** n VALUES, one of each +. */
    private static String sumOf(int n) {
        StringBuilder sum = new StringBuilder("right 1");
        for (int i = 1; i < n; i++) {
            sum.append("+1");
        }
        return sum.toString();
    }

    private static void values() {
        right(sumOf(60), 60);
        wrong(sumOf(61), 5 + 2 * 60 + 1, 3);
        wrong(sumOf(60) + "+123456", 5 + 2 * 60 + 1, 1);
        wrong(sumOf(60) + "+", 5 + 2 * 60 + 1, 0);
        wrong(sumOf(60) + "+x", 5 + 2 * 60 + 1, 0);
        wrong(sumOf(60) + ";right wit", 5 + 2 * 60 + 7, 3);
        right(sumOf(57) + " if 1=1", 57);
        wrong(sumOf(58) + " if 1=1", sumOf(58).length() + 6, 3);
        wrong(sumOf(59) + " if 1 = 1", sumOf(59).length() + 6, 3);
        wrong(sumOf(59) + " if 1 <= 1", sumOf(59).length() + 6, 3);
        wrong(sumOf(60) + " if 1=1", sumOf(60).length() + 4, 3);
        wrong(sumOf(60) + " if [not 1=1]", sumOf(60).length() + 9, 3);
        right(sumOf(30) + " if 1=2;" + sumOf(27), 27);
    }

    private static void sixRules() {
        YoungerBench b = new YoungerBench();
        for (int i = 0; i < 6; i++) {
            Calls.due("a FAULT ahead of RULE " + i, Calls.rule(b, "right"), Calls.fault(5, 0));
            Calls.due("RULE " + i, Calls.rule(b, "right " + i), i);
            Calls.due("the TAPE is empty then", b.count(14), 0);
            Calls.due("RULES", b.count(4), i + 1);
        }
        Calls.due("a seventh", Calls.rule(b, "right 6"), -1);
        Calls.due("the TAPE stays", b.count(14), 7);
        Calls.due("a seventh with a FAULT", Calls.rule(b, "right"), -1);
        Calls.due("its TAPE stays", b.count(14), 5);
        Calls.due("RULES", b.count(4), 6);
    }

    private static void forces() {
        YoungerBench b = Towns.four();
        Calls.rule(b, "right 11");
        Calls.rule(b, "right 22");
        Calls.due("none in force", b.count(5), -1);
        Calls.due("right", b.right(0, 1), 70);
        Calls.due("force(0)", b.force(0), -1);
        Calls.due("right by 0", b.right(0, 1), 11);
        Calls.due("force(1)", b.force(1), 0);
        Calls.due("right by 1", b.right(0, 1), 22);
        Calls.due("force(2)", b.force(2), -2);
        Calls.due("force(-2)", b.force(-2), -2);
        Calls.due("force(MAX)", b.force(Integer.MAX_VALUE), -2);
        Calls.due("force(MIN)", b.force(Integer.MIN_VALUE), -2);
        Calls.due("still 1", b.count(5), 1);
        Calls.due("force(NONE)", b.force(-1), 1);
        Calls.due("right again", b.right(0, 1), 70);
        Calls.due("force is no ACT", b.count(12), 0);
    }
}
