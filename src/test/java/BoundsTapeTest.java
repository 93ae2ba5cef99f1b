/** Boundary cases of promises 1, 2, 3, 6 and 27 and of an object's calls; each remark tells the document's sentence. */
public final class BoundsTapeTest {
    private static final int BLANKS = 0x20202020;

    public static void main(String[] args) {
        calls512();
        constants();
        newObject();
        twentyBytes();
        moreThan400();
        firstBytesAlone();
        notSoMany();
        inForce();
        noneSuch();
        countsAtTheirLeast();
        countsAtTheirMost();
        countsAsBits();
        othersAreNone();
        Calls.close();
    }

    /** "An object is used for at most 512 calls after it has been made; what later calls answer is free." */
    private static void calls512() {
        YoungerBench b = new YoungerBench();
        b.feed(0x746F776E, 0x20312035, BLANKS, BLANKS, BLANKS);
        b.town();
        for (int i = 3; i < 512; i++) {
            Calls.due("call " + i, b.day(), 0);
        }
        Calls.due("call 512", b.count(6), 509);
    }

    /** "The constants: `NONE = -1`: None." */
    private static void constants() {
        Calls.due("NONE", YoungerBench.NONE, -1);
    }

    /** Promise 1: "No TOWN, no RULES, none IN FORCE." */
    private static void newObject() {
        YoungerBench b = new YoungerBench();
        Calls.due("no first AGE to sit", b.count(9), -1);
        Calls.due("no PEOPLE", b.count(2), 0);
        Calls.due("no CASES", b.count(3), 0);
        Calls.due("a DAY needs a TOWN", b.day(), -1);
        Calls.due("no RULES", b.count(4), 0);
        Calls.due("no RULE 0", b.force(0), -2);
        Calls.due("none IN FORCE", b.count(5), -1);
        Calls.due("none was IN FORCE", b.force(YoungerBench.NONE), -1);
        Calls.due("an empty TAPE", b.count(14), 0);
    }

    private static int feedWith(YoungerBench b, int place, int sign) {
        int[] n = {BLANKS, BLANKS, BLANKS, BLANKS, BLANKS};
        int shift = 24 - place % 4 * 8;
        n[place / 4] = n[place / 4] & ~(255 << shift) | sign << shift;
        return b.feed(n[0], n[1], n[2], n[3], n[4]);
    }

    /** Promise 2: "Twenty bytes come behind the TAPE, of each number the highest first: how many it has;" */
    private static void twentyBytes() {
        YoungerBench b = new YoungerBench();
        for (int place = 0; place < 20; place++) {
            Calls.due("the first twenty", feedWith(b, 0, ' '), 20);
            Calls.due("twenty behind them", feedWith(b, place, 255), 40);
            Calls.due("byte 255 in place " + place, b.town(), Calls.fault(20 + place, 0));
        }
        for (int sign = 0; sign < 256; sign += 51) {
            feedWith(b, 7, sign);
            Calls.due("byte " + sign, b.rule(), Calls.fault(7, 0));
        }
    }

    /** Promise 2: "NONE, and none comes, if it would have more than 400." */
    private static void moreThan400() {
        YoungerBench b = new YoungerBench();
        for (int i = 1; i < 20; i++) {
            b.feed(BLANKS, BLANKS, BLANKS, BLANKS, BLANKS);
        }
        Calls.due("to 400", b.feed(BLANKS, BLANKS, BLANKS, BLANKS, BLANKS), 400);
        Calls.due("to 420", b.feed(0, 0, 0, 0, 0), -1);
        Calls.due("400 stay", b.count(14), 400);
        Calls.due("end", b.end(381), 381);
        Calls.due("to 401", b.feed(0, 0, 0, 0, 0), -1);
        Calls.due("381 stay", b.count(14), 381);
        Calls.due("none of the refused ones is there", b.town(), Calls.fault(381, 0));
        for (int i = 1; i < 20; i++) {
            b.feed(BLANKS, BLANKS, BLANKS, BLANKS, BLANKS);
        }
        Calls.due("from 380 to 400", b.feed(BLANKS, BLANKS, BLANKS, BLANKS, BLANKS), 400);
        Calls.due("end", b.end(380), 380);
        Calls.due("from 380 to 400 again", b.feed(BLANKS, BLANKS, BLANKS, BLANKS, 0x20202021), 400);
        Calls.due("the last byte came", b.town(), Calls.fault(399, 0));
    }

    /** Promise 3: "The TAPE has its first n bytes alone: n;" */
    private static void firstBytesAlone() {
        YoungerBench b = new YoungerBench();
        Calls.due("none of none", b.end(0), 0);
        b.feed(0x746F776E, 0x20312035, 0x35212121, BLANKS, BLANKS);
        Calls.due("all of them", b.end(20), 20);
        Calls.due("all but one", b.end(19), 19);
        Calls.due("the first eight", b.end(8), 8);
        Calls.due("bytes", b.count(14), 8);
        Calls.due("these alone", b.town(), 0);
        Calls.due("YEAR 5, not 55", b.count(1), 5);
        b.feed(0x746F776E, 0x20312035, BLANKS, BLANKS, BLANKS);
        Calls.due("none", b.end(0), 0);
        Calls.due("an empty text", b.town(), Calls.fault(0, 0));
    }

    /** Promise 3: "NONE, and nothing happens, if it has not so many, or n is below 0." */
    private static void notSoMany() {
        YoungerBench b = new YoungerBench();
        Calls.due("1 of none", b.end(1), -1);
        b.feed(0x746F776E, 0x20312035, BLANKS, BLANKS, BLANKS);
        int[] wrong = {21, 400, 401, Integer.MAX_VALUE, -1, Integer.MIN_VALUE};
        for (int n : wrong) {
            Calls.due("end(" + n + ")", b.end(n), -1);
            Calls.due("twenty stay", b.count(14), 20);
        }
        b.end(8);
        Calls.due("what was cut off does not come back", b.end(9), -1);
        Calls.due("eight stay", b.count(14), 8);
        Calls.due("and are the text", b.town(), 0);
        Calls.due("1 of none behind town", b.end(1), -1);
    }

    /** Promise 6: "A RULE is IN FORCE (NONE: none): which was;" */
    private static void inForce() {
        YoungerBench b = Towns.four();
        for (int i = 0; i < 6; i++) {
            Calls.rule(b, "right " + (10 + i));
        }
        Calls.due("none was", b.force(0), -1);
        Calls.due("by the first one", b.right(0, 1), 10);
        Calls.due("the first one was", b.force(5), 0);
        Calls.due("by the last one", b.right(0, 1), 15);
        Calls.due("the last one was", b.force(5), 5);
        Calls.due("the last one was still", b.force(-1), 5);
        Calls.due("by none", b.right(0, 1), 70);
        Calls.due("none was", b.force(-1), -1);
    }

    /** Promise 6: "-2, and nothing happens, if there is none such." */
    private static void noneSuch() {
        YoungerBench b = Towns.four();
        Calls.due("0 of none", b.force(0), -2);
        Calls.rule(b, "right 7");
        b.force(0);
        String was = Calls.all(b);
        int[] wrong = {1, 5, 6, -2, Integer.MAX_VALUE, Integer.MIN_VALUE};
        for (int rule : wrong) {
            Calls.due("force(" + rule + ")", b.force(rule), -2);
        }
        Calls.stays("force", was, b);
        for (int i = 1; i < 6; i++) {
            Calls.rule(b, "right 7");
        }
        Calls.due("a seventh", b.force(6), -2);
    }

    private static void counts(String of, YoungerBench b, int... due) {
        for (int what = 0; what < due.length; what++) {
            Calls.due(of + ": count(" + what + ")", b.count(what), due[what]);
        }
    }

    /** Promise 27: "4: RULES, 5: the RULE IN FORCE (NONE), 6: DAY," and the others of a TOWN as small as it can be. */
    private static void countsAtTheirLeast() {
        YoungerBench b = Calls.townOf("town 1 5;bench 0 0");
        counts("least", b, 1, 5, 0, 0, 0, -1, 0, 0, 0, 0, 0, 0, 0, 0, 0);
    }

    /**
     * Promise 27: "What 0: GAP, 1: YEAR, 2: PEOPLE, 3: CASES," "9: the first AGE to sit, 10: the last one, 11: FACTS,
     * 12: ACTS that can be UNDONE, 13: x, 14: bytes of the TAPE." - each as great as it can be.
     */
    private static void countsAtTheirMost() {
        YoungerBench b = Calls.townOf("town 99 99;bench 9999 9999" + Calls.times(7, ";person 5 0 0") + Calls.times(6, ";case 6 1 1 0"));
        for (int i = 0; i < 6; i++) {
            Calls.rule(b, "right 1");
        }
        b.force(5);
        for (int i = 0; i < 10; i++) {
            b.fact(5, 7, 9999);
        }
        for (int i = 0; i < 20; i++) {
            b.feed(0, 0, 0, 0, 0);
        }
        Calls.days(b, 21);
        b.seed(Integer.MAX_VALUE);
        counts("most", b, 99, 99, 7, 6, 6, 5, 21, 0, 0, 9999, 9999, 10, 20, Integer.MAX_VALUE, 400);
    }

    /** Promise 27: "7: CASES heard now, as bits, 8: ruled, as bits," - none, all six, and both under appeal. */
    private static void countsAsBits() {
        YoungerBench b = Calls.townOf("town 1 99;person 90 0 0;person 16 0 0;person 15 0 0;person 14 0 0;person 13 0 0;"
                + "person 12 0 0;person 11 0 0" + Calls.times(6, ";case 0 1 1 0"));
        for (int i = 0; i < 6; i++) {
            b.hear(i, i + 1);
            Calls.due("heard", b.count(7), (2 << i) - 1);
        }
        Calls.due("none ruled", b.count(8), 0);
        Calls.due("all six on one day", b.day(), 6);
        Calls.due("none heard", b.count(7), 0);
        Calls.due("all ruled", b.count(8), 63);
        b.hear(4, 6);
        Calls.due("heard again", b.count(7), 16);
        Calls.due("ruled all the same", b.count(8), 63);
        YoungerBench zero = Calls.townOf("town 1 99;person 10 0 0;person 90 0 0;case 1 1 1 0;case 1 1 1 0");
        zero.hear(1, 0);
        Calls.due("heard by PERSON 0", zero.count(7), 2);
        zero.day();
        Calls.due("ruled by PERSON 0", zero.count(8), 2);
    }

    /** Promise 27: "NONE for others (9, 10 without a TOWN, too)." */
    private static void othersAreNone() {
        YoungerBench none = new YoungerBench();
        YoungerBench four = Towns.four();
        int[] wrong = {-1, 15, 16, Integer.MAX_VALUE, Integer.MIN_VALUE};
        for (int what : wrong) {
            Calls.due("without a TOWN: count(" + what + ")", none.count(what), -1);
            Calls.due("count(" + what + ")", four.count(what), -1);
        }
        counts("without a TOWN", none, 0, 0, 0, 0, 0, -1, 0, 0, 0, -1, -1, 0, 0, 0, 0);
        Calls.town(none, "town 1");
        Calls.due("a TOWN with a FAULT is none", none.count(9), -1);
        Calls.due("a TOWN with a FAULT is none", none.count(10), -1);
    }
}
