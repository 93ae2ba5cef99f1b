/** Boundary cases of the texts of RULES, of their WORDS, and of promise 5; each remark tells the document's sentence. */
public final class BoundsRuleTest {
    /** Judge 0 is elder than who did it by one day: WORD older is -1; judge 2 by 35 days. */
    private static final String ELDER = "town 1 50;person 21 0 0;person 20 0 0;person 55 0 0;case 1 1 1 0";

    public static void main(String[] args) {
        sixTexts();
        bytes400();
        clauses12();
        clauseForm();
        orOfParts();
        andOfFacts();
        notBindsTheNext();
        brackets();
        signs();
        sumsFromTheLeft();
        termsFromTheLeft();
        digits();
        lettersGoOn();
        wordsOfBoth();
        ageOnThatDay();
        older();
        ruledSoFar();
        howOftenRuled();
        tillBirthday();
        towardsZero();
        byZero();
        goesRound();
        blanks();
        tenDeep();
        sixtyTogether();
        itsNumber();
        itsFault();
        thereAreSix();
        Calls.close();
    }

    /** RIGHT of judge 1 in CASE 0 of Towns.FOUR by a RULE. */
    private static void right(String rule, int due) {
        Calls.due("\"" + rule + "\"", Calls.ruledBy(Towns.FOUR, rule).right(0, 1), due);
    }

    /** RIGHT of an elder judge: WORD older is -1 of judge 0, -35 of judge 2. */
    private static void elder(String rule, int judge, int due) {
        Calls.due("\"" + rule + "\"", Calls.ruledBy(ELDER, rule).right(0, judge), due);
    }

    private static void holds(String test, boolean due) {
        right("right 9 if " + test + ";right 4", due ? 9 : 4);
    }

    /** "RULES 0 to 5:" */
    private static void sixTexts() {
        YoungerBench b = Towns.four();
        for (int i = 0; i < 6; i++) {
            Calls.rule(b, "right " + (60 + i));
        }
        for (int i = 0; i < 6; i++) {
            b.force(i);
            Calls.due("by RULE " + i, b.right(0, 1), 60 + i);
        }
        Calls.due("RULES", b.count(4), 6);
    }

    /** "texts likewise," - of at most 400 bytes, CLAUSE { ; CLAUSE } */
    private static void bytes400() {
        right("right 3+" + Calls.times(391, " ") + "7", 10);
        right("right 7" + Calls.times(393, " "), 7);
        right("right 6 if 1=2" + Calls.times(375, " ") + ";right 8  ", 8);
        Calls.ruleFails("right 3" + Calls.times(392, " ") + "7", 399, 0);
        Calls.ruleFails("right 3+" + Calls.times(392, " "), 400, 0);
    }

    /** "12 CLAUSES at most:" */
    private static void clauses12() {
        String eleven = Calls.times(11, "right 1 if 1=2;");
        right(eleven + "right 42", 42);
        Calls.ruleFails(eleven + "right 42 if 1=2;right 43", eleven.length() + 16, 4);
        Calls.ruleFails(eleven + "right 42;", eleven.length() + 9, 0);
    }

    /** "right SUM [ if TEST ]." */
    private static void clauseForm() {
        right("right 5", 5);
        right("right 5 if 1=1", 5);
        Calls.ruleFails("", 0, 0);
        Calls.ruleFails("right", 5, 0);
        Calls.ruleFails("right if 1=1", 6, 0);
        Calls.ruleFails("right 5 if", 10, 0);
        Calls.ruleFails("right 5 if;", 10, 0);
        Calls.ruleFails("right 5 if 1", 12, 0);
        Calls.ruleFails("right 5 1=1", 8, 0);
        Calls.ruleFails("right 5 if 1=1 if 1=1", 15, 0);
        Calls.ruleFails("right 5 right 6", 8, 0);
        Calls.ruleFails("right 5;;right 6", 8, 0);
        Calls.ruleFails("if 1=1", 0, 0);
    }

    /** "TEST: PART { or PART }." */
    private static void orOfParts() {
        holds("1=2 or 1=2", false);
        holds("1=1 or 1=2", true);
        holds("1=2 or 1=1", true);
        holds("1=2 or 1=2 or 1=1", true);
        holds("1=1 or 1=1", true);
        Calls.ruleFails("right 9 if or 1=1", 11, 0);
        Calls.ruleFails("right 9 if 1=1 or", 17, 0);
        Calls.ruleFails("right 9 if 1=1 or or 1=1", 18, 0);
    }

    /** "PART: FACT { and FACT }." */
    private static void andOfFacts() {
        holds("1=1 and 1=1", true);
        holds("1=1 and 1=2", false);
        holds("1=2 and 1=1", false);
        holds("1=1 and 1=1 and 1=2", false);
        holds("1=1 or 1=1 and 1=2", true);
        holds("1=2 and 1=1 or 1=1", true);
        holds("1=2 or 1=1 and 1=2", false);
        holds("1=1 and 1=2 or 1=2 and 1=1", false);
        Calls.ruleFails("right 9 if 1=1 and", 18, 0);
        Calls.ruleFails("right 9 if 1=1 and or 1=1", 19, 0);
    }

    /** "FACT: not FACT" */
    private static void notBindsTheNext() {
        holds("not 1=1", false);
        holds("not 1=2", true);
        holds("not not 1=1", true);
        holds("not 1=1 or 1=1", true);
        holds("not 1=2 and 1=2", false);
        Calls.ruleFails("right 9 if not", 14, 0);
        Calls.ruleFails("right 9 if not and", 15, 0);
        Calls.ruleFails("right 9 if 1=1 not", 15, 0);
        Calls.ruleFails("right not 1=1", 6, 0);
    }

    /** "| [ TEST ] (these brackets are signs)" */
    private static void brackets() {
        holds("[1=1]", true);
        holds("[[1=2]]", false);
        holds("[1=1 or 1=1] and 1=2", false);
        holds("not [1=1 and 1=2]", true);
        Calls.ruleFails("right 9 if []", 12, 0);
        Calls.ruleFails("right 9 if [1=1", 15, 0);
        Calls.ruleFails("right 9 if 1=1]", 14, 0);
        Calls.ruleFails("right 9 if [1]=1", 13, 0);
        Calls.ruleFails("right [1]", 6, 0);
        Calls.ruleFails("right 9 if (1=1)", 11, 0);
    }

    /** "| SUM SIGN SUM, SIGN one of < <= = >= >." */
    private static void signs() {
        String[] signs = {"<", "<=", "=", ">=", ">"};
        boolean[][] due = {{true, false, false}, {true, true, false}, {false, true, false}, {false, true, true}, {false, false, true}};
        for (int i = 0; i < 5; i++) {
            for (int left = 6; left <= 8; left++) {
                holds(left + signs[i] + "wit", due[i][left - 6]);
            }
        }
        for (int i = 0; i < 5; i++) {
            for (int left = 6; left <= 8; left++) {
                boolean is = due[i][left - 6];
                holds("not " + left + signs[i] + "wit", !is);
                holds(left + signs[i] + "wit and 1=1", is);
                holds("1=1 and " + left + signs[i] + "wit", is);
                holds(left + signs[i] + "wit or 1=2", is);
            }
        }
        holds("1+1 < 1+1+1", true);
        YoungerBench cut = new YoungerBench();
        Calls.tape(cut, "right 9 if 1<=1");
        cut.end(13);
        Calls.due("what was cut off is no part of a SIGN", cut.rule(), Calls.fault(13, 0));
        String[] wrong = {"=<", "=>", "==", "<>", "!=", "<<", "< ="};
        for (String sign : wrong) {
            int at = sign.length() == 3 ? 14 : sign.charAt(0) == '!' ? 12 : 13;
            Calls.ruleFails("right 9 if 1" + sign + "1", at, 0);
        }
        Calls.ruleFails("right 9 if 1=1=1", 14, 0);
        Calls.ruleFails("right 9 if =1", 11, 0);
        Calls.ruleFails("right 9 if 1=", 13, 0);
    }

    /** "SUM: TERM { (+ or -) TERM }." */
    private static void sumsFromTheLeft() {
        right("right 10-2-3", 5);
        right("right 10-2+3", 11);
        right("right 1-5+9", 5);
        right("right 20-2*3", 14);
        right("right 2+3*4", 14);
        Calls.ruleFails("right -1", 6, 0);
        Calls.ruleFails("right +1", 6, 0);
        Calls.ruleFails("right 1+", 8, 0);
        Calls.ruleFails("right 1+-1", 8, 0);
    }

    /** "TERM: VALUE { (* or / or %) VALUE }." */
    private static void termsFromTheLeft() {
        right("right 100/7/2", 7);
        right("right 20/2*5", 50);
        right("right 17%5*3", 6);
        right("right 3*17%5", 1);
        right("right 40%25/4", 3);
        Calls.ruleFails("right *1", 6, 0);
        Calls.ruleFails("right 1*", 8, 0);
        Calls.ruleFails("right 1**1", 8, 0);
    }

    /** "VALUE: NUMBER (1 to 5 digits, as far as digits go on)" */
    private static void digits() {
        right("right 0", 0);
        right("right 00042", 42);
        right("right 99999-99958", 41);
        right("right 10000/200", 50);
        Calls.ruleFails("right 100000", 6, 1);
        Calls.ruleFails("right 000001", 6, 1);
        Calls.ruleFails("right 1 2", 8, 0);
        Calls.ruleFails("right 1.5", 7, 0);
    }

    /** "| WORD. WORDS (small letters, as far as these go on)" */
    private static void lettersGoOn() {
        right("right wit", 7);
        right("right wit+0", 7);
        Calls.ruleFails("right wi", 6, 0);
        Calls.ruleFails("right wits", 6, 0);
        Calls.ruleFails("right witwit", 6, 0);
        Calls.ruleFails("right witz", 6, 0);
        Calls.ruleFails("right wita", 6, 0);
        Calls.ruleFails("right awit", 6, 0);
        Calls.ruleFails("right wit`", 9, 0);
        Calls.ruleFails("right wit{", 9, 0);
        Calls.ruleFails("right wit2", 9, 0);
        Calls.ruleFails("right wit wit", 10, 0);
        Calls.ruleFails("right Wit", 6, 0);
        Calls.ruleFails("right wiT", 6, 0);
        Calls.ruleFails("right right", 6, 0);
        Calls.ruleFails("rights 1", 0, 0);
        Calls.ruleFails("right `", 6, 0);
        Calls.ruleFails("right {", 6, 0);
        right("right wit if 1=1", 7);
    }

    /** "of a judge and a CASE: judge, wit," "sweets, accused, gravity, length," "day," - each at an edge of its own. */
    private static void wordsOfBoth() {
        String least = "town 1 99;person 98 0 0;person 1 0 0;case 0 1 1 0";
        String most = "town 1 99;person 9 0 0;person 9 0 0;person 9 0 0;person 9 0 0;person 9 0 0;person 9 0 0;person 8 9 9;"
                + "case 5 9 9 99";
        String[] words = {"judge", "wit", "sweets", "accused", "gravity", "length", "day"};
        int[] little = {0, 0, 0, 0, 1, 1, 0};
        int[] much = {6, 9, 9, 5, 9, 9, 0};
        for (int i = 0; i < words.length; i++) {
            Calls.due("the least " + words[i], Calls.ruledBy(least, "right " + words[i]).right(0, 0), little[i]);
            YoungerBench b = Calls.ruledBy(most, "right " + words[i]);
            Calls.due("the most " + words[i], b.right(0, 6), much[i]);
            Calls.days(b, 3);
            Calls.due(words[i] + " on DAY 3", b.right(0, 6), words[i].equals("day") ? 3 : much[i]);
        }
    }

    /** "age (on that DAY)," */
    private static void ageOnThatDay() {
        YoungerBench b = Calls.ruledBy("town 1 99;person 9999 0 0;person 0 0 0;case 0 1 1 0", "right age-9950;right 0");
        Calls.due("on DAY 0", b.right(0, 0), 49);
        b.day();
        Calls.due("on DAY 1", b.right(0, 0), 50);
        YoungerBench c = Calls.ruledBy("town 1 99;person 99 0 0;person 0 0 0;case 0 1 1 0", "right age");
        Calls.due("0 on DAY 0", c.right(0, 1), 0);
        c.day();
        Calls.due("1 on DAY 1", c.right(0, 1), 1);
        Calls.due("begun on DAY 1", c.hear(0, 1), 1);
        Calls.due("on each DAY that is asked", c.commit(0, 1, 1, 60, 1), 1);
    }

    /** "older (by how many days the accused is older)," */
    private static void older() {
        right("right older", 35);
        elder("right 50+older", 0, 49);
        elder("right 50+older", 1, 50);
        elder("right 50+older", 2, 15);
        YoungerBench b = Calls.ruledBy(Towns.FOUR, "right older");
        Calls.days(b, 5);
        Calls.due("the same on every DAY", b.right(0, 1), 35);
    }

    /** "ruled (CASES that judge ruled so far, appeals too)," */
    private static void ruledSoFar() {
        YoungerBench b = Calls.ruledBy("town 1 99;person 90 0 0;person 12 0 0;person 11 0 0;case 0 1 1 0;case 0 1 1 0", "right ruled");
        Calls.due("none", b.right(0, 2), 0);
        b.hear(0, 1);
        Calls.due("one that is heard is not ruled", b.right(1, 1), 0);
        b.day();
        Calls.due("one", b.right(1, 1), 1);
        b.hear(0, 2);
        b.day();
        Calls.due("an appeal", b.right(1, 2), 1);
        Calls.due("who ruled it before ruled it all the same", b.right(1, 1), 1);
        b.hear(1, 2);
        b.day();
        Calls.due("an appeal and one more", b.right(1, 2), 2);
        b.undo();
        Calls.due("undone", b.right(1, 2), 1);
    }

    /** "appeal (how often it was ruled)," */
    private static void howOftenRuled() {
        YoungerBench b = Calls.ruledBy("town 1 99;person 90 0 0;person 12 0 0;person 11 0 0;case 0 1 1 0;case 0 1 1 0", "right appeal");
        Calls.due("never", b.hear(0, 1), 0);
        Calls.due("heard, not ruled", b.right(0, 2), 0);
        b.day();
        Calls.due("once", b.hear(0, 2), 1);
        b.day();
        Calls.due("twice", b.right(0, 0), 2);
        Calls.due("of another one never", b.right(1, 0), 0);
    }

    /** "birthday (days till the judge's next one; YEAR on it)." */
    private static void tillBirthday() {
        YoungerBench b = Calls.ruledBy("town 1 99;person 0 0 0;person 98 0 0;person 99 0 0;case 0 1 1 0", "right birthday");
        Calls.due("at 0", b.right(0, 0), 99);
        Calls.due("a day ahead of it", b.right(0, 1), 1);
        Calls.due("on it", b.right(0, 2), 99);
        b.day();
        Calls.due("a day behind it", b.right(0, 0), 98);
        Calls.due("on it", b.right(0, 1), 99);
    }

    /** "/ is towards 0, % its rest," */
    private static void towardsZero() {
        right("right 7/2", 3);
        right("right 7%2", 1);
        elder("right 50+older/2", 2, 33);
        elder("right 50+older%4", 2, 47);
        elder("right 50+71/older", 2, 48);
        elder("right 50+71%older", 2, 51);
        elder("right 50+older/36", 2, 50);
        elder("right 50+older%36", 2, 15);
        elder("right 50+older*older/older", 2, 15);
    }

    /** "both 0 by 0;" */
    private static void byZero() {
        right("right 5/0+7", 7);
        right("right 5%0+7", 7);
        right("right 0/0+7", 7);
        right("right 0%0+7", 7);
        right("right 5/day+6%ruled+7", 7);
        elder("right older/0+7", 2, 7);
        elder("right older%0+7", 2, 7);
    }

    /** "all goes round in 64 bits." */
    private static void goesRound() {
        String least = "65536*65536*65536*32768";
        right("right 65536*65536*65536*65536+7", 7);
        right("right " + least, 0);
        right("right " + least + "-1", 100);
        right("right 0-" + least, 0);
        right("right 0-" + least + "-1", 100);
        right("right 9 if " + least + "<0;right 4", 9);
        right("right 9 if " + least + "-1>0;right 4", 9);
        right("right " + least + "+" + least + "+8", 8);
        elder("right " + least + "/older-1", 0, 100);
        elder("right " + least + "/older", 0, 0);
        elder("right " + least + "%older+7", 0, 7);
        right("right 65536*65536+5-65536*65536", 5);
    }

    /** "Blanks (32) stand between as one likes." */
    private static void blanks() {
        right("right5if1=1and2=2", 5);
        right("right5if[not[1=2]]or1=2;right4", 5);
        right("   right   5   +   1   if   [   1   <=   1   ]   ;   right   4   ", 6);
        Calls.ruleFails("ri ght 5", 0, 0);
        Calls.ruleFails("rightwit", 0, 0);
        Calls.ruleFails("right 5 if not1=1 and wi t=1", 22, 0);
        int[] wrong = {0, 9, 10, 13, 31, 33, 95, 127, 128, 160, 255};
        for (int sign : wrong) {
            Calls.ruleFails("right" + (char) sign + "5", 5, 0);
            Calls.townFails("town 1 5 " + (char) sign, 9, 0);
        }
    }

    /** "[ and not lie within one another 10 deep at most;" */
    private static void tenDeep() {
        holds(Calls.times(10, "[") + "1=1" + Calls.times(10, "]"), true);
        holds(Calls.times(10, "not ") + "1=1", true);
        holds(Calls.times(5, "not[") + "1=1" + Calls.times(5, "]"), false);
        Calls.ruleFails("right 9 if " + Calls.times(11, "[") + "1=1" + Calls.times(11, "]"), 21, 2);
        Calls.ruleFails("right 9 if " + Calls.times(11, "not ") + "1=1", 51, 2);
        Calls.ruleFails("right 9 if " + Calls.times(5, "not[") + "not 1=1" + Calls.times(5, "]"), 31, 2);
        Calls.ruleFails("right 9 if " + Calls.times(10, "[") + "not 1=1" + Calls.times(10, "]"), 21, 2);
        String ten = Calls.times(10, "[") + "1=1" + Calls.times(10, "]");
        holds(ten + " and " + ten, true);
        holds("not " + Calls.times(9, "[") + "1=2" + Calls.times(9, "]") + " and not 1=2", true);
        holds(Calls.times(11, "[1=1] and ") + "not 1=2", true);
        right("right 3 if " + Calls.times(10, "not ") + "1=2;right 4 if " + Calls.times(10, "not ") + "1=1", 4);
    }

    /** "at most 60 VALUES (of SUMS) and FACTS made of a SIGN, together." */
    private static void sixtyTogether() {
        right("right 1" + Calls.times(59, "+1"), 60);
        Calls.ruleFails("right 1" + Calls.times(60, "+1"), 126, 3);
        right("right 1" + Calls.times(56, "+1") + " if 1=1", 57);
        Calls.ruleFails("right 1" + Calls.times(57, "+1") + " if 1=1", 7 + 114 + 6, 3);
        right("right 1" + Calls.times(28, "+1") + " if 1=2;right 1" + Calls.times(27, "*1"), 1);
        Calls.ruleFails("right 1" + Calls.times(28, "+1") + " if 1=2;right 1" + Calls.times(28, "*1"), 7 + 56 + 8 + 7 + 55, 3);
        right("right 1 if " + Calls.times(18, "1=1 and ") + "1=1;right 2;right 3", 1);
        right("right 1" + Calls.times(56, "+1") + " if [not not[1=1]]", 57);
    }

    /** Promise 5: "The TAPE, which is empty then, is a RULE: its number;" */
    private static void itsNumber() {
        YoungerBench b = new YoungerBench();
        for (int i = 0; i < 6; i++) {
            Calls.due("its number", Calls.rule(b, "right 1"), i);
            Calls.due("the TAPE is empty then", b.count(14), 0);
        }
        Calls.due("none is IN FORCE by that", b.count(5), -1);
    }

    /** Promise 5: "-2 - its FAULT;" */
    private static void itsFault() {
        YoungerBench b = new YoungerBench();
        Calls.due("the least FAULT", b.rule(), -3);
        Calls.due("the greatest place", Calls.rule(b, "right" + Calls.times(395, " ")), -2 - 1 - 8 * 400);
        Calls.due("no RULE by that", b.count(4), 0);
        Calls.due("the TAPE is empty then", b.count(14), 0);
        Calls.due("the first one's number", Calls.rule(b, "right 1"), 0);
    }

    /** Promise 5: "NONE, and nothing happens: there are 6." */
    private static void thereAreSix() {
        YoungerBench b = Towns.four();
        for (int i = 0; i < 6; i++) {
            Calls.rule(b, "right " + i);
        }
        b.force(5);
        Calls.tape(b, "right 99");
        String was = Calls.all(b);
        Calls.due("a seventh", b.rule(), -1);
        Calls.stays("rule", was, b);
        Calls.due("the TAPE stays", b.count(14), 8);
        Calls.due("RULE 5 stays", b.right(0, 1), 5);
        Calls.due("the TAPE is what it was", b.town(), Calls.fault(0, 0));
        Calls.due("an empty one", b.rule(), -1);
    }
}
