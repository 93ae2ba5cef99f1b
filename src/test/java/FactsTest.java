/** Promises 22 to 24: fact, who, look. */
public final class FactsTest {
    public static void main(String[] args) {
        telling();
        who();
        eachKind();
        look();
        asNow();
        Calls.close();
    }

    private static void telling() {
        YoungerBench b = Towns.four();
        Calls.due("what 8", b.fact(0, 8, 0), -2);
        Calls.due("what -1", b.fact(0, -1, 0), -2);
        Calls.due("number -1", b.fact(0, 0, -1), -2);
        Calls.due("number 10000", b.fact(0, 0, 10000), -2);
        Calls.due("no such CASE", b.fact(3, 0, 0), -2);
        Calls.due("no such CASE", b.fact(-2, 0, 0), -2);
        Calls.due("FACTS", b.count(11), 0);
        for (int i = 0; i < 10; i++) {
            Calls.due("FACT " + i, b.fact(i % 3, i % 8, i == 0 ? 9999 : 0), i + 1);
        }
        Calls.due("an eleventh", b.fact(0, 0, 0), -2);
        Calls.due("FACTS", b.count(11), 10);
        Calls.due("no ACTS", b.count(12), 0);
        Calls.due("none then", b.fact(-1, 99, -7), 0);
        Calls.due("FACTS", b.count(11), 0);
        Calls.due("again", b.fact(2, 7, 9999), 1);
    }

    private static void four(YoungerBench b, String of, int trial, int many, int judge, int day, int bits) {
        Calls.due(of + ": how many", b.who(trial, 0), many);
        Calls.due(of + ": judge", b.who(trial, 1), judge);
        Calls.due(of + ": DAY", b.who(trial, 2), day);
        Calls.due(of + ": as bits", b.who(trial, 3), bits);
    }

    private static void who() {
        YoungerBench b = Towns.four();
        // CASE 0: judge 1 on 40 days less 9 10 29 30; judge 2 on 57 less 6 7 26 27 46 47; judge 3 on 61 less 11 12 31 32 51 52
        four(b, "no FACTS", 0, 36 + 51 + 55, 1, 0, 14);
        // CASE 1: judge 3 on the DAYS 1 to 60 less 10 to 12, 30 to 32, 50 to 52
        four(b, "twins", 1, 51, 3, 1, 8);
        Calls.due("who(3,0)", b.who(3, 0), -1);
        Calls.due("who(-1,0)", b.who(-1, 0), -1);
        Calls.due("who(0,4)", b.who(0, 4), -1);
        Calls.due("who(0,-1)", b.who(0, -1), -1);
        b.fact(1, 0, 9999);
        four(b, "of another CASE", 0, 36 + 51 + 55, 1, 0, 14);
        four(b, "none", 1, 0, -2, -2, 0);
        Calls.due("none to look at", b.look(1, 0), -2);
        Calls.due("none to look at", b.look(1, 1), -2);
        Calls.days(b, 30);
        four(b, "from DAY 0 on, always", 0, 36 + 51 + 55, 1, 0, 14);
    }

    private static void fact(int what, int number, int many, int judge, int day, int bits) {
        YoungerBench b = Towns.four();
        b.fact(0, what, number);
        four(b, "FACT " + what + " " + number, 0, many, judge, day, bits);
    }

    private static void eachKind() {
        fact(0, 66, 22 + 22 + 3, 1, 16, 14);
        fact(1, 52, 3 + 18 + 41, 1, 0, 14);
        fact(2, 7, 36 + 55, 1, 0, 10);
        fact(3, 7, 36 + 51, 1, 0, 6);
        fact(4, 39, 1 + 16 + 20, 1, 39, 14);
        fact(5, 9, 9 + 8 + 10, 1, 0, 14);
        fact(6, 70, 36 + 55, 1, 0, 10);
        fact(6, 71, 55, 3, 0, 8);
        fact(7, 70, 36 + 51, 1, 0, 6);
        fact(7, 69, 51, 2, 0, 4);
        YoungerBench b = Towns.four();
        b.fact(0, 4, 9);
        b.fact(0, 5, 11);
        b.fact(0, 3, 7);
        four(b, "all of them", 0, 1 + 3, 1, 11, 6);
    }

    private static void look() {
        YoungerBench b = Towns.four();
        Calls.due("DAYS are fewest", b.look(0, 0), 1);
        Calls.due("three of a DAY", b.look(0, 1), 3);
        b.fact(0, 5, 0);
        // one DAY, three judges, each as right as no other
        Calls.due("the judge", b.look(0, 0), 0);
        Calls.due("one of each", b.look(0, 1), 1);
        b.fact(-1, 0, 0);
        b.fact(0, 5, 2);
        Calls.due("three DAYS of three judges", b.look(0, 0), 0);
        Calls.due("three of each", b.look(0, 1), 3);
        Calls.rule(b, "right judge * 10 + day");
        b.force(0);
        Calls.due("RIGHT tells all", b.look(0, 0), 2);
        Calls.due("one of each", b.look(0, 1), 1);
        Calls.due("look(0,2)", b.look(0, 2), -1);
        Calls.due("look(0,-1)", b.look(0, -1), -1);
        Calls.due("look(3,0)", b.look(3, 0), -1);
        Calls.due("look(-1,0)", b.look(-1, 0), -1);
    }

    private static void asNow() {
        YoungerBench b = Towns.four();
        b.fact(0, 6, 75);
        four(b, "WIT as told", 0, 55, 3, 0, 8);
        b.teach(1);
        four(b, "WIT as now", 0, 36 + 55, 1, 0, 10);
        Calls.rule(b, "right 80 - ruled * 50 - appeal * 50 - day");
        b.force(0);
        b.hear(0, 1);
        Calls.days(b, 2);
        // up to DAY 5, ruled and appeal are 0 of all
        four(b, "WORDS ruled and appeal 0", 0, 18, 1, 0, 14);
    }
}
