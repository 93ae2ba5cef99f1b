/** Promise 4: town, its language and its FAULTS; promise 27 tells what was read. */
public final class TownTest {
    public static void main(String[] args) {
        wholeTown();
        blanksAndEdges();
        places();
        numbers();
        oneTooMany();
        whatStays();
        Calls.close();
    }

    private static void wholeTown() {
        YoungerBench b = new YoungerBench();
        Calls.due("town", Calls.town(b, Towns.FOUR), 4);
        int[] due = {10, 20, 4, 3, 0, -1, 0, 0, 0, 5, 90, 0, 0, 0, 0};
        for (int what = 0; what < due.length; what++) {
            Calls.due("count(" + what + ")", b.count(what), due[what]);
        }
        int[][] people = {{85, 5, 0, 0}, {50, 7, 1, 4}, {33, 3, 0, 2}, {8, 9, 2, 0}};
        int[][] cases = {{0, 3, 2, 0}, {1, 5, 3, 1}, {0, 6, 1, 0}};
        for (int what = 0; what < 4; what++) {
            for (int p = 0; p < 4; p++) {
                Calls.due("person(" + p + "," + what + ")", b.person(p, what), people[p][what]);
            }
            for (int c = 0; c < 3; c++) {
                Calls.due("trial(" + c + "," + what + ")", b.trial(c, what), cases[c][what]);
            }
        }
    }

    private static void read(String text, int due) {
        Calls.due("town \"" + text + "\"", Calls.town(new YoungerBench(), text), due);
    }

    private static void wrong(String text, int place, int kind) {
        YoungerBench b = new YoungerBench();
        Calls.due("town \"" + text + "\"", Calls.town(b, text), Calls.fault(place, kind));
        Calls.due("the TAPE is empty behind a FAULT", b.count(14), 0);
        Calls.due("no TOWN", b.count(9), -1);
    }

    private static void blanksAndEdges() {
        read("town 1 5", 0);
        read("town 99 99", 0);
        read("  town   1   5  ", 0);
        read("town1 5;person0 0 0", 1);
        read("town 1 5 ; person 9999 9 9 ; bench 0 9999", 1);
        read("town 00001 00005", 0);
        read("town 1 5;bench 7 7", 0);
        read("town 1 5;person 1 1 1;person 2 2 2;twins 00 1;twins 1 0;twins 0 1;twins 0 1", 2);
        read("town 1 5;person 1 1 1;case 0 9 9 99;person 1 1 1;case 1 1 1 0", 2);
        String seven = "town 1 5;person 1 1 1;person 1 1 1;person 1 1 1;person 1 1 1;person 1 1 1;person 1 1 1;person 1 1 1";
        read(seven, 7);
        read(seven + ";case 6 1 1 1;case 6 1 1 1;case 6 1 1 1;case 6 1 1 1;case 6 1 1 1;case 6 1 1 1", 7);
        YoungerBench b = Calls.townOf("town 1 5");
        Calls.due("without bench: first", b.count(9), 0);
        Calls.due("without bench: last", b.count(10), 9999);
    }

    private static void places() {
        wrong("", 0, 0);
        wrong("   ", 3, 0);
        wrong("town", 4, 0);
        wrong("town  ", 6, 0);
        wrong("town 1", 6, 0);
        wrong("town 1 5;", 9, 0);
        wrong("town 1 5;  ", 11, 0);
        wrong("town 1 5;;", 9, 0);
        wrong("town 1 5 5", 9, 0);
        wrong("town 1 5x", 8, 0);
        wrong("town 1,5", 6, 0);
        wrong("town x 5", 5, 0);
        wrong("towns 1 5", 0, 0);
        wrong(" tow n 1 5", 1, 0);
        wrong("Town 1 5", 0, 0);
        wrong("7 1 5", 0, 0);
        wrong("right 1", 0, 0);
        wrong("town 1 5;person 1 1", 19, 0);
        wrong("town 1 5;person 1 1 1 1", 22, 0);
        wrong("town 1 5;person 1 -1 1", 18, 0);
        wrong("town 1 5" + (char) 0, 8, 0);
        wrong("town 1 5" + (char) 9 + ";", 8, 0);
        wrong("town 1 5;judge 1", 9, 0);
        wrong("foo", 0, 0);
    }

    private static void numbers() {
        wrong("town 0 5", 5, 1);
        wrong("town 100 5", 5, 1);
        wrong("town 1 4", 7, 1);
        wrong("town 1 100", 7, 1);
        wrong("town 000001 5", 5, 1);
        wrong("town 1 000005", 7, 1);
        wrong("town 15", 7, 0);
        wrong("town 99999999999999999999 5", 5, 1);
        wrong("town 1 5;bench 5 4", 17, 1);
        wrong("town 1 5;bench 10000 4", 15, 1);
        wrong("town 1 5;bench 0 10000", 17, 1);
        wrong("town 1 5;person 10000 0 0", 16, 1);
        wrong("town 1 5;person 0 10 0", 18, 1);
        wrong("town 1 5;person 0 0 10", 20, 1);
        wrong("town 1 5;twins 0 1", 15, 1);
        wrong("town 1 5;person 0 0 0;twins 0 0", 30, 1);
        wrong("town 1 5;person 0 0 0;twins 0 00", 30, 1);
        wrong("town 1 5;person 0 0 0;twins 0 1", 30, 1);
        wrong("town 1 5;person 0 0 0;twins 1 0", 28, 1);
        wrong("town 1 5;case 0 1 1 0", 14, 1);
        wrong("town 1 5;person 0 0 0;case 1 1 1 0", 27, 1);
        wrong("town 1 5;person 0 0 0;case 0 0 1 0", 29, 1);
        wrong("town 1 5;person 0 0 0;case 0 10 1 0", 29, 1);
        wrong("town 1 5;person 0 0 0;case 0 1 0 0", 31, 1);
        wrong("town 1 5;person 0 0 0;case 0 1 10 0", 31, 1);
        wrong("town 1 5;person 0 0 0;case 0 1 1 100", 33, 1);
    }

    private static void oneTooMany() {
        wrong("person 0 0 0", 0, 4);
        wrong("  bench x", 2, 4);
        wrong("town 1 5;town 1 5", 9, 4);
        wrong("town 1 5;bench 0 0;bench 0 0", 19, 4);
        String person = ";person 1 1 1";
        String seven = "town 1 5" + person + person + person + person + person + person + person;
        wrong(seven + person, seven.length() + 1, 4);
        wrong(seven + ";person", seven.length() + 1, 4);
        wrong(seven + ";persons", seven.length() + 1, 0);
        String twins = ";twins 0 1";
        String four = seven + twins + twins + twins + twins;
        wrong(four + "; twins 0 1", four.length() + 2, 4);
        String trial = ";case 6 1 1 1";
        String six = four + trial + trial + trial + trial + trial + trial;
        wrong(six + trial, six.length() + 1, 4);
        read(six + ";bench 1 2", 7);
    }

    private static void whatStays() {
        YoungerBench b = Towns.four();
        Calls.rule(b, "right 7");
        b.force(0);
        b.seed(99);
        b.fact(0, 0, 1);
        b.teach(1);
        b.day();
        Calls.due("a FAULT", Calls.town(b, "town 1"), Calls.fault(6, 0));
        Calls.due("DAY stays", b.count(6), 1);
        Calls.due("FACTS stay", b.count(11), 1);
        Calls.due("ACTS stay", b.count(12), 2);
        Calls.due("PEOPLE stay", b.count(2), 4);
        Calls.due("WIT stays", b.person(1, 1), 8);
        Calls.due("the RULE IN FORCE stays", b.count(5), 0);
        Calls.due("x stays", b.count(13), 99);
        Calls.due("no byte stays", b.count(14), 0);
        Calls.due("another TOWN", Calls.town(b, "town 2 6;person 3 4 5;case 0 1 2 3"), 1);
        int[] due = {2, 6, 1, 1, 1, 0, 0, 0, 0, 0, 9999, 0, 0, 99, 0};
        for (int what = 0; what < due.length; what++) {
            Calls.due("then count(" + what + ")", b.count(what), due[what]);
        }
        Calls.due("nothing to be UNDONE", b.undo(), -1);
        Calls.due("no twins are left", b.person(0, 3), 0);
        Calls.due("the RULE is in force", b.right(0, 0), 7);
    }
}
