/** Boundary cases of FAULTS in both languages; each remark tells the document's sentence. */
public final class BoundsFaultsTest {
    private static final String SEVEN = "town 1 5" + Calls.times(7, ";person 1 1 1");
    private static final String SIXTY = "right 1" + Calls.times(59, "+1");
    private static final String TWELVE = "right 1" + Calls.times(11, ";right 1");

    public static void main(String[] args) {
        firstAlongTheText();
        placeTimesEight();
        cantStand();
        theEnd();
        moreDigits();
        notAsTold();
        twinsOfOne();
        tooDeep();
        valueTooMany();
        factTooMany();
        clauseTooMany();
        secondTownOrBench();
        aheadOfTown();
        eighthFifthSeventh();
        leastOfOnePlace();
        Calls.close();
    }

    /** "FAULTS, the first along the text," */
    private static void firstAlongTheText() {
        Calls.townFails("town 0 4;x", 5, 1);
        Calls.townFails("town 1 4;x", 7, 1);
        Calls.townFails("town 1 5;x;town 1 5", 9, 0);
        Calls.townFails("person x", 0, 4);
        Calls.townFails(SEVEN + ";person x", SEVEN.length() + 1, 4);
        Calls.ruleFails("right 123456 if", 6, 1);
        Calls.ruleFails("right 1+x+123456", 8, 0);
        Calls.ruleFails(SIXTY + "+1+x", SIXTY.length() + 1, 3);
        Calls.ruleFails("right 1 if " + Calls.times(11, "[") + "x", 21, 2);
        Calls.ruleFails("right 1 if " + Calls.times(10, "[") + "x", 21, 0);
        Calls.ruleFails(TWELVE + ";right x", TWELVE.length() + 1, 4);
    }

    /** "1 + 8 * its place and:" */
    private static void placeTimesEight() {
        YoungerBench b = new YoungerBench();
        Calls.due("place 0, kind 0", Calls.town(b, "x"), -2 - 1);
        Calls.due("place 1, kind 0", Calls.town(b, " x"), -2 - 9);
        Calls.due("place 5, kind 1", Calls.town(b, "town 0 5"), -2 - 42);
        Calls.due("place 21, kind 2", Calls.rule(b, "right 1 if " + Calls.times(11, "[")), -2 - 171);
        Calls.due("place 126, kind 3", Calls.rule(b, SIXTY + "+1"), -2 - 1012);
        Calls.due("place 0, kind 4", Calls.town(b, "case"), -2 - 5);
        Calls.due("place 400, kind 0", Calls.town(b, Calls.times(400, " ")), -2 - 3201);
        Calls.due("place 399, kind 0", Calls.town(b, Calls.times(399, " ") + "x"), -2 - 3193);
    }

    /** "0 a byte or WORD that can't stand there," */
    private static void cantStand() {
        Calls.townFails("town 1,5", 6, 0);
        Calls.townFails("town a 5", 5, 0);
        Calls.townFails("town 1 bench", 7, 0);
        Calls.townFails("5", 0, 0);
        Calls.townFails("right 5", 0, 0);
        Calls.townFails("town 1 5;right 5", 9, 0);
        Calls.townFails("town 1 5;towns 1 5", 9, 0);
        Calls.townFails("town 1 5;persona 1 1 1", 9, 0);
        Calls.townFails("town 1 5;perso", 9, 0);
        Calls.townFails("TOWN 1 5", 0, 0);
        Calls.ruleFails("town 1 5", 0, 0);
        Calls.ruleFails("right 5;town 1 5", 8, 0);
        Calls.ruleFails("right 5 or 1=1", 8, 0);
        Calls.ruleFails("right 5 if 1=1 wit", 15, 0);
        Calls.ruleFails("right 5 if 1 and 1=1", 13, 0);
        Calls.ruleFails("right 5 if if 1=1", 11, 0);
        Calls.ruleFails("right town", 6, 0);
        Calls.ruleFails("right 5]", 7, 0);
    }

    /** "or the end (behind the last byte);" */
    private static void theEnd() {
        String whole = "town 1 5;person 1 1 1;case 0 1 1 0";
        String[] ends = {"", "town", "town 1", "town 1 5;", "town 1 5;person", "town 1 5;person 1 1", "town 1 5;person 1 1 1;case 0 1 1"};
        for (String text : ends) {
            Calls.townFails(text, text.length(), 0);
            Calls.townFails(text + "   ", text.length() + 3, 0);
            Calls.holds("ahead of the end", whole.startsWith(text));
        }
        Calls.townReads(whole, 1);
        String[] rules = {"", "right", "right 1+", "right 1 if", "right 1 if not", "right 1 if [", "right 1 if [1", "right 1 if [1=",
            "right 1 if [1=1", "right 1 if [1=1] and", "right 1;"};
        for (String text : rules) {
            Calls.ruleFails(text, text.length(), 0);
            Calls.ruleFails(text + "   ", text.length() + 3, 0);
        }
    }

    /** "1 a NUMBER of more digits," */
    private static void moreDigits() {
        Calls.townReads("town 00001 00005", 0);
        Calls.townFails("town 000001 5", 5, 1);
        Calls.townFails("town 1 000005", 7, 1);
        Calls.townFails("town 1 5;person 000000 0 0", 16, 1);
        Calls.townFails("town 1 5;person 0 000000 0", 18, 1);
        Calls.townFails("town 1 5;person 0 0 000000", 20, 1);
        Calls.townFails("town " + Calls.times(395, "0"), 5, 1);
        Calls.townFails("town 4294967297 5", 5, 1);
        Calls.ruleReads("right 99999");
        Calls.ruleFails("right 100000", 6, 1);
        Calls.ruleFails("right 4294967296", 6, 1);
        Calls.ruleFails("right 1 if 1=000000", 13, 1);
        Calls.ruleFails("right " + Calls.times(394, "9"), 6, 1);
    }

    /** "or not as told" */
    private static void notAsTold() {
        Calls.townFails("town 0 5", 5, 1);
        Calls.townFails("town 1 4", 7, 1);
        Calls.townFails("town 1 5;bench 2 1", 17, 1);
        Calls.townFails("town 1 5;bench 10000 0", 15, 1);
        Calls.townFails("town 1 5;person 99999 0 0", 16, 1);
        Calls.townFails("town 1 5;twins 0 1", 15, 1);
        Calls.townFails("town 1 5;case 0 1 1 0", 14, 1);
        Calls.townFails("town 1 5;person 0 0 0;case 0 1 1 100", 33, 1);
    }

    /** "(of twins the second one, if it is the first);" */
    private static void twinsOfOne() {
        Calls.townFails("town 1 5;person 0 0 0;twins 0 0", 30, 1);
        Calls.townFails("town 1 5;person 0 0 0;twins 0   000", 32, 1);
        Calls.townFails(SEVEN + ";twins 6 6", SEVEN.length() + 9, 1);
        Calls.townReads(SEVEN + ";twins 6 5", 7);
    }

    /** "2 too deep (at the sign that opens, or the word not);" */
    private static void tooDeep() {
        String open = "right 1 if " + Calls.times(10, "[");
        Calls.ruleFails(open + "[1=1", open.length(), 2);
        Calls.ruleFails(open + "  [1=1", open.length() + 2, 2);
        Calls.ruleFails(open + "not 1=1", open.length(), 2);
        Calls.ruleFails(open + "1=1 and [", open.length() + 8, 2);
        Calls.ruleFails(open + "1=1 or not", open.length() + 7, 2);
        Calls.ruleFails(open + "1=1] and [not", open.length() + 10, 2);
        Calls.ruleFails(open + "nots", open.length(), 0);
    }

    /** "3 one VALUE or FACT too many (at its first byte;" */
    private static void valueTooMany() {
        Calls.ruleReads(SIXTY);
        Calls.ruleFails(SIXTY + "+1", SIXTY.length() + 1, 3);
        Calls.ruleFails(SIXTY + "+  12345", SIXTY.length() + 3, 3);
        Calls.ruleFails(SIXTY + "*birthday", SIXTY.length() + 1, 3);
        Calls.ruleFails(SIXTY + ";right 1", SIXTY.length() + 7, 3);
        Calls.ruleFails(SIXTY + " if 1=1", SIXTY.length() + 4, 3);
        Calls.ruleFails(SIXTY + " if not [ wit=1]", SIXTY.length() + 10, 3);
        Calls.ruleFails("right 1" + Calls.times(57, "+1") + " if 1=  1", 7 + 114 + 8, 3);
    }

    /** "of a FACT at its SIGN);" */
    private static void factTooMany() {
        String fiftyNine = "right 1" + Calls.times(58, "+1");
        int length = fiftyNine.length();
        String[] signs = {"<", "<=", "=", ">=", ">"};
        for (String sign : signs) {
            Calls.ruleFails(fiftyNine + " if 1" + sign + "1", length + 5, 3);
            Calls.ruleFails(fiftyNine + " if 1   " + sign + "   1", length + 8, 3);
        }
        Calls.ruleFails(fiftyNine + " if 1=", length + 5, 3);
        Calls.ruleFails(fiftyNine + " if 1", length + 5, 0);
    }

    /** "4 one CLAUSE too many," */
    private static void clauseTooMany() {
        Calls.ruleReads(TWELVE);
        Calls.ruleFails(TWELVE + ";right 1", TWELVE.length() + 1, 4);
        Calls.ruleFails(TWELVE + " ;  right 1", TWELVE.length() + 4, 4);
        Calls.ruleFails(TWELVE + ";right", TWELVE.length() + 1, 4);
    }

    /** "a second town or bench," */
    private static void secondTownOrBench() {
        Calls.townFails("town 1 5;town 2 6", 9, 4);
        Calls.townFails("town 1 5; town", 10, 4);
        Calls.townFails("town 1 5;bench 1 2;town 1 5", 19, 4);
        Calls.townFails("town 1 5;bench 1 2;bench 1 2", 19, 4);
        Calls.townFails("town 1 5;bench 1 2;  bench", 21, 4);
    }

    /** "another CLAUSE ahead of town," */
    private static void aheadOfTown() {
        String[] clauses = {"bench 0 1", "person 1 1 1", "twins 0 1", "case 0 1 1 1"};
        for (String clause : clauses) {
            Calls.townFails(clause, 0, 4);
            Calls.townFails("  " + clause + ";town 1 5", 2, 4);
        }
        Calls.townFails("person", 0, 4);
    }

    /** "an eighth PERSON, a fifth TWINS, a seventh CASE (at its first byte)." */
    private static void eighthFifthSeventh() {
        Calls.townReads(SEVEN, 7);
        Calls.townFails(SEVEN + ";person 1 1 1", SEVEN.length() + 1, 4);
        Calls.townFails(SEVEN + ";  person 1 1 1", SEVEN.length() + 3, 4);
        String four = SEVEN + Calls.times(4, ";twins 0 1");
        Calls.townReads(four, 7);
        Calls.townFails(four + ";twins 2 3", four.length() + 1, 4);
        String six = SEVEN + Calls.times(6, ";case 0 1 1 0");
        Calls.townReads(six, 7);
        Calls.townFails(six + ";case 0 1 1 0", six.length() + 1, 4);
    }

    /** "Of one place the least." */
    private static void leastOfOnePlace() {
        Calls.townFails("foo 1 5", 0, 0);
        Calls.townFails("persons 1 1 1", 0, 0);
        Calls.ruleFails(TWELVE + ";rights 1", TWELVE.length() + 1, 0);
        Calls.ruleFails(TWELVE + ";", TWELVE.length() + 1, 0);
        Calls.ruleFails(TWELVE + ";1", TWELVE.length() + 1, 0);
        Calls.ruleFails(SIXTY + "+123456", SIXTY.length() + 1, 1);
        Calls.ruleFails(SIXTY + "+wits", SIXTY.length() + 1, 0);
        Calls.ruleFails(SIXTY + "+", SIXTY.length() + 1, 0);
        Calls.ruleFails(SIXTY + " if not", SIXTY.length() + 7, 0);
        Calls.ruleFails("right 1" + Calls.times(58, "+1") + " if 1!", 7 + 116 + 5, 0);
        Calls.ruleFails(SIXTY + " if " + Calls.times(11, "["), SIXTY.length() + 14, 2);
    }
}
