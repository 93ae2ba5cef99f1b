/** The TOWN that most tests are about; what is due there is worked out by hand in their comments. */
final class Towns {
    /**
     * GAP 10, YEAR 20, one sits from 5 to 90. Days till the BIRTHDAYS: 15, 10, 7, 12.
     * CASE 0 (accused 0): 1, 2 and 3 are young enough. CASE 1 (accused 1, from DAY 1 on): 3 alone, for 2 is a twin.
     * CASE 2 (accused 0). RIGHT without a RULE: CASE 0: 63 70 53 77, CASE 1: 55 62 45 69, CASE 2: 51 58 41 65.
     */
    static final String FOUR = "town 10 20;bench 5 90;person 85 5 0;person 50 7 1;person 33 3 0;person 8 9 2;"
            + "twins 1 2;case 0 3 2 0;case 1 5 3 1;case 0 6 1 0";

    private Towns() {
    }

    static YoungerBench four() {
        return Calls.townOf(FOUR);
    }
}
