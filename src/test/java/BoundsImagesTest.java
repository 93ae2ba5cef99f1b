/** Boundary cases of IMAGES and of promises 28 and 29; each remark tells the document's sentence. */
public final class BoundsImagesTest {
    public static void main(String[] args) {
        fourImages();
        allButTapeAndRules();
        asItWas();
        theseStay();
        nothingUndone();
        imageIsMade();
        imageWithoutIt();
        backToIt();
        neverMade();
        Calls.close();
    }

    /** "IMAGES 0 to 3:" */
    private static void fourImages() {
        YoungerBench b = Towns.four();
        for (int k = 0; k < 4; k++) {
            Calls.due("image(" + k + ")", b.image(k), k);
            b.day();
        }
        for (int k = 3; k >= 0; k--) {
            Calls.due("back(" + k + ")", b.back(k), k);
            Calls.due("DAY", b.count(6), k);
        }
        Calls.due("back to the last one, again", b.back(3), 3);
    }

    private static YoungerBench lively() {
        YoungerBench b = Calls.ruledBy(Towns.FOUR, "right wit*5+day");
        Calls.rule(b, "right 2");
        b.hear(0, 1);
        b.hear(2, 3);
        b.day();
        b.teach(2);
        b.fact(0, 4, 1);
        b.fact(1, 5, 60);
        b.seed(33);
        b.force(1);
        return b;
    }

    /** "all but the TAPE and the RULES, as it is (the RULE IN FORCE, too);" */
    private static void allButTapeAndRules() {
        YoungerBench b = lively();
        b.feed(0, 0, 0, 0, 0);
        String was = Calls.all(b);
        Calls.due("image", b.image(1), 1);
        Calls.stays("image", was, b);
        b.end(0);
        Calls.town(b, "town 7 8;bench 1 2;person 3 4 5;person 3 4 5;twins 0 1;case 0 9 9 9");
        b.force(-1);
        b.seed(1);
        b.fact(0, 0, 9999);
        b.day();
        b.feed(0, 0, 0, 0, 0);
        b.back(1);
        b.undo();
        Calls.stays("back, less ACTS", was.replace(" 4 33 20 ", " 0 33 20 "), b);
    }

    /** "gone back to, it is as it was" */
    private static void asItWas() {
        YoungerBench b = lively();
        b.image(0);
        int who = b.who(0, 0);
        int other = b.who(1, 0);
        int right = b.benches(0);
        Calls.days(b, 5);
        b.hear(0, 3);
        b.fact(-1, 0, 0);
        b.fact(1, 7, 0);
        b.fact(2, 3, 1);
        b.fact(0, 4, 61);
        b.force(0);
        b.back(0);
        Calls.due("FACTS", b.count(11), 2);
        Calls.due("FACTS of CASE 0", b.who(0, 0), who);
        Calls.due("FACTS of CASE 1", b.who(1, 0), other);
        b.fact(-1, 0, 0);
        Calls.due("less of CASE 0 by its FACT", b.who(0, 0), who + 3);
        b.back(0);
        Calls.due("BENCHES", b.benches(0), right);
        Calls.due("a day to go", b.trial(0, 5), 1);
        Calls.due("it is ruled", b.day(), 1);
        Calls.due("as RIGHT as told then", b.trial(0, 7), 35);
        Calls.due("an IMAGE is no part of what it holds", b.back(0), 1);
        Calls.due("and can be gone back to again", b.trial(0, 5), 1);
        YoungerBench none = new YoungerBench();
        none.image(2);
        Calls.town(none, Towns.FOUR);
        none.day();
        Calls.due("to no TOWN", none.back(2), 0);
        Calls.due("no PEOPLE", none.count(2), 0);
        Calls.due("no DAY goes by", none.day(), -1);
        Calls.due("no AGE to sit", none.count(9), -1);
    }

    /** "(these stay;" - the TAPE and the RULES. */
    private static void theseStay() {
        YoungerBench b = Towns.four();
        b.image(0);
        for (int i = 0; i < 6; i++) {
            Calls.rule(b, "right " + (40 + i));
        }
        Calls.tape(b, "town 2 7;person 9 8 7");
        b.back(0);
        Calls.due("six RULES", b.count(4), 6);
        Calls.due("none IN FORCE", b.count(5), -1);
        b.force(5);
        Calls.due("the last one", b.right(0, 1), 45);
        Calls.due("bytes", b.count(14), 21);
        Calls.due("and they are the same", b.town(), 1);
        Calls.due("AGE", b.person(0, 0), 9);
    }

    /** "nothing can be UNDONE then)." */
    private static void nothingUndone() {
        YoungerBench b = Towns.four();
        Calls.days(b, 3);
        b.image(0);
        Calls.due("by an IMAGE they stay", b.count(12), 3);
        Calls.days(b, 3);
        b.back(0);
        Calls.due("none", b.count(12), 0);
        Calls.due("none", b.undo(), -1);
        Calls.due("DAY", b.count(6), 3);
        b.day();
        Calls.due("the one since then", b.undo(), 0);
        Calls.due("no more", b.undo(), -1);
        Calls.due("DAY", b.count(6), 3);
    }

    /** Promise 28: "An IMAGE is made: DAY;" */
    private static void imageIsMade() {
        YoungerBench b = Towns.four();
        Calls.due("on DAY 0", b.image(0), 0);
        Calls.days(b, 2);
        Calls.due("on DAY 2, in place of the one there was", b.image(0), 2);
        b.day();
        Calls.due("the new one", b.back(0), 2);
        Calls.due("without a TOWN", new YoungerBench().image(3), 0);
    }

    /** Promise 28: "NONE without it." */
    private static void imageWithoutIt() {
        YoungerBench b = Towns.four();
        String was = Calls.all(b);
        int[] wrong = {-1, 4, Integer.MAX_VALUE, Integer.MIN_VALUE};
        for (int k : wrong) {
            Calls.due("image(" + k + ")", b.image(k), -1);
        }
        Calls.stays("image", was, b);
        for (int k = 0; k < 4; k++) {
            Calls.due("none was made", b.back(k), -1);
        }
    }

    /** Promise 29: "All is as in an IMAGE: DAY;" */
    private static void backToIt() {
        YoungerBench b = Towns.four();
        b.image(3);
        Calls.days(b, 4);
        b.image(0);
        Calls.due("DAY 0", b.back(3), 0);
        Calls.due("DAY 4", b.back(0), 4);
        Calls.due("DAY", b.count(6), 4);
    }

    /** Promise 29: "NONE, and nothing happens, if it was never made, or without it." */
    private static void neverMade() {
        YoungerBench b = lively();
        b.image(2);
        b.day();
        String was = Calls.all(b);
        int[] wrong = {0, 1, 3, -1, 4, Integer.MAX_VALUE, Integer.MIN_VALUE};
        for (int k : wrong) {
            Calls.due("back(" + k + ")", b.back(k), -1);
        }
        Calls.stays("back", was, b);
        Calls.due("the ACTS can be UNDONE still", b.undo(), 4);
        Calls.due("of a new object", new YoungerBench().back(0), -1);
    }
}
