/** Boundary cases of DRAWS and YEARS and of promises 25 and 26; each remark tells the document's sentence. */
public final class BoundsYearsTest {
    /** From x 0 on the DRAWS are 0 21468 9988 22117 3498 16927 16045, from 2147483647 on 15929 4409 9862 26718. */
    private static final int GREATEST = 2147483647;
    private static final String JUDGE_0 = "town 1 99;person 100 3 0;person 900 0 0";
    private static final String JUDGE_1 = "town 1 99;person 900 0 0;person 100 3 0";

    public static void main(String[] args) {
        xAtItsEnds();
        drawsGoRound();
        tenTimes();
        ninetyNineDays();
        drawnToHear();
        firstTheyMay();
        noneTheyMay();
        drawOfEachRuled();
        belowItsRight();
        rightlyAndRuled();
        withoutPeople();
        nothingStays();
        seedWas();
        seedBelow0();
        yearsWhats();
        yearsWithoutThese();
        Calls.close();
    }

    private static void years(String of, YoungerBench b, int m, int n, int rightly, int ruled) {
        Calls.due(of + ": rightly", b.years(m, n, 0), rightly);
        Calls.due(of + ": ruled", b.years(m, n, 1), ruled);
    }

    /** "DRAWS: x (0 to 2147483647; 0 at first)" */
    private static void xAtItsEnds() {
        YoungerBench b = new YoungerBench();
        Calls.due("0 at first", b.count(13), 0);
        b.seed(GREATEST);
        Calls.due("the greatest", b.count(13), GREATEST);
        b.seed(0);
        Calls.due("the least", b.count(13), 0);
    }

    /** "becomes x * 1103515245 + 12345, of 2147483648 the rest; a DRAW is x / 65536." */
    private static void drawsGoRound() {
        YoungerBench b = Calls.ruledBy(JUDGE_0 + ";case 1 1 1 0", "right 68");
        Calls.rule(b, "right 69");
        years("0, then 68 of 100", b, 1, 1, 0, 1);
        b.force(1);
        years("0, then 68 of 100", b, 1, 1, 1, 1);
        YoungerBench c = Calls.ruledBy(JUDGE_1 + ";case 0 1 1 0", "right 9");
        Calls.rule(c, "right 10");
        years("0 is PERSON 0", c, 1, 1, 0, 0);
        c.seed(GREATEST);
        years("15929 is PERSON 1, then 9 of 100", c, 1, 1, 0, 1);
        c.force(1);
        years("15929 is PERSON 1, then 9 of 100", c, 1, 1, 1, 1);
    }

    /** "YEARS m times (1 to 10)" */
    private static void tenTimes() {
        YoungerBench b = Calls.ruledBy(JUDGE_0 + ";case 1 1 1 0", "right 18");
        years("once: 0, 68", b, 1, 1, 0, 1);
        years("twice, x goes on: 9988 is PERSON 0, 17", b, 2, 1, 1, 2);
        years("three times: 3498 is PERSON 0, 27", b, 3, 1, 1, 3);
        Calls.due("ten times", b.years(10, 99, 1), 10);
        Calls.due("eleven times", b.years(11, 1, 0), -1);
    }

    /** "n days (1 to 99) from now on:" */
    private static void ninetyNineDays() {
        YoungerBench b = Calls.ruledBy(JUDGE_0 + ";case 1 1 9 0", "right 100");
        years("eight days of nine", b, 1, 8, 0, 0);
        years("nine days of nine", b, 1, 9, 1, 1);
        YoungerBench late = Calls.townOf("town 1 99;person 50 3 0;person 900 3 0;case 1 1 1 98");
        late.seed(seedOf(99, 0));
        years("98 days", late, 1, 98, 0, 0);
        Calls.due("the 99th day", late.years(1, 99, 1), 1);
        Calls.due("100 days", late.years(1, 100, 0), -1);
        late.day();
        late.seed(seedOf(98, 0));
        years("from DAY 1 on 97 days", late, 1, 97, 0, 0);
        Calls.due("from DAY 1 on 98 days", late.years(1, 98, 1), 1);
    }

    /** A number from which on the DRAW in that place is even or odd. */
    private static int seedOf(int place, int rest) {
        for (int seed = 0; seed < 1000; seed++) {
            long x = seed;
            for (int i = 0; i < place; i++) {
                x = (x * 1103515245L + 12345L) % 2147483648L;
            }
            if (x / 65536 % 2 == rest) {
                return seed;
            }
        }
        return 0;
    }

    /** "ahead of each a DRAW mod PEOPLE: that one HEARS" */
    private static void drawnToHear() {
        YoungerBench b = Calls.townOf(JUDGE_1 + ";case 0 1 1 0");
        years("DAYS 0 to 2: 0, 21468, 9988", b, 1, 1, 0, 0);
        years("21468 is PERSON 0", b, 1, 2, 0, 0);
        years("9988 is PERSON 0", b, 1, 3, 0, 0);
        years("22117 is PERSON 1, then 98 of 100", b, 1, 4, 0, 1);
        YoungerBench seven = Calls.townOf("town 1 99;person 900 0 0" + Calls.times(6, ";person 100 3 0") + ";case 0 1 1 0");
        // 0 mod 7 is the accused, 21468 mod 7 is 6
        years("PERSON 6 on DAY 1", seven, 1, 2, 0, 1);
        years("not on DAY 0", seven, 1, 1, 0, 0);
    }

    /** "the first CASE they may HEAR (APPEAL, too;" */
    private static void firstTheyMay() {
        String town = "town 1 99;person 100 3 0;person 900 0 0;person 102 0 0;case 0 1 1 0;case 1 2 1 0;case 1 3 1 0";
        YoungerBench b = Calls.ruledBy(town, "right 100 if gravity=2");
        years("CASE 1, not CASE 0 nor CASE 2", b, 1, 1, 1, 1);
        YoungerBench c = Calls.ruledBy(town, "right 100 if appeal=1 and gravity=2");
        c.hear(1, 2);
        c.day();
        years("an APPEAL of CASE 1, not CASE 2", c, 1, 1, 1, 1);
        YoungerBench d = Calls.ruledBy(town, "right 100 if gravity=3");
        d.hear(1, 2);
        years("CASE 1 is heard: CASE 2", d, 1, 1, 1, 2);
    }

    /** "none: nothing);" */
    private static void noneTheyMay() {
        YoungerBench b = Calls.townOf(JUDGE_0 + ";case 1 1 1 0");
        b.seed(GREATEST);
        years("15929, 4409 are the accused", b, 1, 2, 0, 0);
        years("9862 is the judge, then 18 of 100", b, 1, 3, 1, 1);
        YoungerBench birthday = Calls.townOf("town 1 99;person 99 3 0;person 900 0 0;case 1 1 1 0");
        years("0 has a BIRTHDAY", birthday, 1, 1, 0, 0);
        years("21468 is 0 again, then 88 of 100", birthday, 1, 2, 0, 1);
    }

    /** "behind it of each CASE ruled on that day, by numbers, a DRAW mod 100:" */
    private static void drawOfEachRuled() {
        String town = "town 1 99;person 900 0 0;person 102 0 0;person 100 0 0;case 0 1 1 0;case 0 2 1 0;case 0 3 2 0";
        YoungerBench b = Calls.ruledBy(town, "right 50+gravity*20");
        b.hear(1, 1);
        b.hear(0, 2);
        // 0 is the accused; 68 is below 70, 88 below 90; the other way round 88 is not below 70
        years("CASE 0, then CASE 1", b, 1, 1, 2, 2);
        YoungerBench c = Calls.ruledBy(town, "right 69");
        c.hear(2, 1);
        c.hear(0, 2);
        years("of one that is not ruled none: 68 for CASE 0", c, 1, 1, 1, 1);
        YoungerBench a = Calls.ruledBy(town, "right 69");
        a.hear(0, 1);
        a.day();
        a.hear(0, 2);
        years("of an APPEAL, too", a, 1, 1, 1, 1);
    }

    /** "below its RIGHT it is ruled rightly:" */
    private static void belowItsRight() {
        int[] rights = {0, 68, 69, 100};
        int[] rightly = {0, 0, 1, 1};
        for (int i = 0; i < 4; i++) {
            years("68 of 100, RIGHT " + rights[i], Calls.ruledBy(JUDGE_0 + ";case 1 1 1 0", "right " + rights[i]), 1, 1, rightly[i], 1);
        }
        YoungerBench b = Calls.ruledBy(JUDGE_0 + ";case 1 1 1 0", "right 69");
        b.hear(0, 0);
        Calls.rule(b, "right 0");
        b.force(1);
        years("as RIGHT as told when it was begun", b, 1, 1, 1, 1);
    }

    /** "how many are; how many are ruled, all together" */
    private static void rightlyAndRuled() {
        String town = JUDGE_0 + Calls.times(6, ";case 1 1 1 0");
        years("none of ten times six", Calls.ruledBy(town, "right 0"), 10, 99, 0, 60);
        years("all of ten times six", Calls.ruledBy(town, "right 100"), 10, 99, 60, 60);
        years("without CASES", Calls.townOf(JUDGE_0), 10, 99, 0, 0);
        YoungerBench b = Calls.townOf(JUDGE_0 + ";case 1 1 1 0");
        b.hear(0, 0);
        b.day();
        years("what is ruled already is not", b, 10, 99, 0, 0);
    }

    /** "(without PEOPLE nothing is drawn;" */
    private static void withoutPeople() {
        YoungerBench b = Calls.townOf("town 1 5");
        b.seed(9);
        years("nobody", b, 10, 99, 0, 0);
        Calls.due("x", b.count(13), 9);
        Calls.due("DAY", b.count(6), 0);
    }

    /** "nothing stays; x as it was)." */
    private static void nothingStays() {
        YoungerBench b = Calls.townOf("town 1 99;person 900 0 0;person 102 0 0;person 100 0 0;case 0 1 1 0;case 0 2 5 0;case 0 3 2 0");
        b.hear(0, 1);
        b.day();
        b.hear(0, 2);
        b.hear(1, 1);
        b.seed(GREATEST);
        String was = Calls.all(b);
        Calls.due("the same again", b.years(10, 99, 0), b.years(10, 99, 0));
        Calls.due("the same again", b.years(1, 1, 1), b.years(1, 1, 1));
        Calls.stays("years", was, b);
        Calls.due("the last ACT is UNDONE", b.undo(), 3);
        Calls.due("CASE 1 is not heard", b.trial(1, 4), -1);
    }

    /** Promise 25: "x becomes a number: what it was;" */
    private static void seedWas() {
        YoungerBench b = new YoungerBench();
        Calls.due("0 at first", b.seed(0), 0);
        Calls.due("0", b.seed(GREATEST), 0);
        Calls.due("the greatest", b.seed(1), GREATEST);
        Calls.due("1", b.seed(1), 1);
        Calls.town(b, "town 1 5");
        Calls.due("it stays with a new TOWN", b.seed(2), 1);
    }

    /** Promise 25: "NONE, and nothing happens, below 0." */
    private static void seedBelow0() {
        YoungerBench b = Towns.four();
        b.seed(7);
        String was = Calls.all(b);
        Calls.due("-1", b.seed(-1), -1);
        Calls.due("the least", b.seed(Integer.MIN_VALUE), -1);
        Calls.stays("seed", was, b);
    }

    /** Promise 26: "YEARS what 0: rightly, 1: ruled." */
    private static void yearsWhats() {
        YoungerBench b = Calls.townOf(JUDGE_0 + ";case 1 9 1 0");
        // as RIGHT as 29: 68 is not below it, 17 is, 27 is
        years("three times", b, 3, 1, 2, 3);
    }

    /** Promise 26: "NONE without these, or a TOWN." */
    private static void yearsWithoutThese() {
        YoungerBench b = Towns.four();
        int[] times = {0, -1, 11, Integer.MAX_VALUE, Integer.MIN_VALUE};
        int[] days = {0, -1, 100, Integer.MAX_VALUE, Integer.MIN_VALUE};
        int[] whats = {-1, 2, 3, Integer.MAX_VALUE, Integer.MIN_VALUE};
        for (int i = 0; i < 5; i++) {
            Calls.due("m " + times[i], b.years(times[i], 1, 0), -1);
            Calls.due("n " + days[i], b.years(1, days[i], 1), -1);
            Calls.due("what " + whats[i], b.years(1, 1, whats[i]), -1);
        }
        Calls.due("without a TOWN", new YoungerBench().years(1, 1, 0), -1);
        Calls.due("without a TOWN", new YoungerBench().years(10, 99, 1), -1);
    }
}
