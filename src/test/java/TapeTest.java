/** Promises 1 to 3: a new object, feed, end. */
public final class TapeTest {
    public static void main(String[] args) {
        newObject();
        feedAndEnd();
        bytesComeHighestFirst();
        emptyBehindFaults();
        cutBytesAreGone();
        Calls.close();
    }

    private static void newObject() {
        YoungerBench b = new YoungerBench();
        int[] due = {0, 0, 0, 0, 0, -1, 0, 0, 0, -1, -1, 0, 0, 0, 0};
        for (int what = 0; what < due.length; what++) {
            Calls.due("new: count(" + what + ")", b.count(what), due[what]);
        }
        Calls.due("new: town()", b.town(), Calls.fault(0, 0));
        Calls.due("new: rule()", b.rule(), Calls.fault(0, 0));
        Calls.due("new: force(0)", b.force(0), -2);
        Calls.due("new: force(-1)", b.force(-1), -1);
        Calls.due("new: person(0,0)", b.person(0, 0), -1);
        Calls.due("new: trial(0,0)", b.trial(0, 0), -2);
        Calls.due("new: can(0,0,0)", b.can(0, 0, 0), -1);
        Calls.due("new: right(0,0)", b.right(0, 0), -1);
        Calls.due("new: day()", b.day(), -1);
        Calls.due("new: hear(0,0)", b.hear(0, 0), -1);
        Calls.due("new: teach(0)", b.teach(0), -1);
        Calls.due("new: undo()", b.undo(), -1);
        Calls.due("new: soonest(0,0)", b.soonest(0, 0), -1);
        Calls.due("new: benches(0)", b.benches(0), -1);
        Calls.due("new: down(0,0)", b.down(0, 0), -1);
        Calls.due("new: commit(0,1,1,1,0)", b.commit(0, 1, 1, 1, 0), -1);
        Calls.due("new: above(1)", b.above(1), -1);
        Calls.due("new: lesson(0)", b.lesson(0), -1);
        Calls.due("new: clement(0,0)", b.clement(0, 0), -1);
        Calls.due("new: fact(0,0,0)", b.fact(0, 0, 0), -2);
        Calls.due("new: fact(-1,0,0)", b.fact(-1, 0, 0), 0);
        Calls.due("new: who(0,0)", b.who(0, 0), -1);
        Calls.due("new: look(0,0)", b.look(0, 0), -1);
        Calls.due("new: years(1,1,0)", b.years(1, 1, 0), -1);
        Calls.due("new: back(0)", b.back(0), -1);
        Calls.due("NONE", YoungerBench.NONE, -1);
    }

    private static void feedAndEnd() {
        YoungerBench b = new YoungerBench();
        for (int i = 1; i <= 20; i++) {
            Calls.due("feed " + i, b.feed(i, -i, 0, Integer.MIN_VALUE, Integer.MAX_VALUE), 20 * i);
        }
        Calls.due("feed beyond 400", b.feed(0, 0, 0, 0, 0), -1);
        Calls.due("400 stay", b.count(14), 400);
        Calls.due("end(401)", b.end(401), -1);
        Calls.due("end(-1)", b.end(-1), -1);
        Calls.due("end(MIN)", b.end(Integer.MIN_VALUE), -1);
        Calls.due("end(MAX)", b.end(Integer.MAX_VALUE), -1);
        Calls.due("400 stay", b.count(14), 400);
        Calls.due("end(400)", b.end(400), 400);
        Calls.due("end(381)", b.end(381), 381);
        Calls.due("feed to 401", b.feed(0, 0, 0, 0, 0), -1);
        Calls.due("381 stay", b.count(14), 381);
        Calls.due("end(380)", b.end(380), 380);
        Calls.due("end(381) then", b.end(381), -1);
        Calls.due("feed to 400", b.feed(0, 0, 0, 0, 0), 400);
        Calls.due("end(7)", b.end(7), 7);
        Calls.due("feed to 27", b.feed(0, 0, 0, 0, 0), 27);
        Calls.due("end(0)", b.end(0), 0);
        Calls.due("end(0) again", b.end(0), 0);
        Calls.due("nothing left", b.count(14), 0);
    }

    private static void bytesComeHighestFirst() {
        YoungerBench b = new YoungerBench();
        b.feed(('t' << 24) + ('o' << 16) + ('w' << 8) + 'n', (' ' << 24) + ('7' << 16) + (' ' << 8) + '3',
                ('1' << 24) + (' ' << 16) + (' ' << 8) + ' ', 0x20202020, 0x20202020);
        Calls.due("town()", b.town(), 0);
        Calls.due("GAP", b.count(0), 7);
        Calls.due("YEAR", b.count(1), 31);
        Calls.due("the TAPE is empty then", b.count(14), 0);
        b.feed(0x80FF7F81, 0, 0, 0, 0);
        Calls.due("a byte of 128", b.town(), Calls.fault(0, 0));
        b.feed(0x20FF7F81, 0, 0, 0, 0);
        Calls.due("a byte of 255", b.rule(), Calls.fault(1, 0));
    }

    /** What comes next stands alone on the TAPE, whatever was read ahead of it. */
    private static void emptyBehindFaults() {
        YoungerBench b = new YoungerBench();
        Calls.due("feed", b.feed(0, 0, 0, 0, 0), 20);
        Calls.due("feed more", b.feed(0, 0, 0, 0, 0), 40);
        Calls.due("town()", b.town(), Calls.fault(0, 0));
        Calls.due("end(1) of an empty TAPE", b.end(1), -1);
        Calls.due("feed behind a FAULT of a TOWN", b.feed(0, 0, 0, 0, 0), 20);
        Calls.due("rule()", b.rule(), Calls.fault(0, 0));
        Calls.due("end(1) then", b.end(1), -1);
        Calls.due("feed behind a FAULT of a RULE", b.feed(0x746F776E, 0x20312035, 0x20202020, 0x20202020, 0x20202020), 20);
        Calls.due("a TOWN behind FAULTS", b.town(), 0);
        Calls.due("town() of an empty TAPE", b.town(), Calls.fault(0, 0));
        Calls.due("rule() of an empty TAPE", b.rule(), Calls.fault(0, 0));
        Calls.due("the TOWN stays", b.count(1), 5);
    }

    private static YoungerBench cut(String text, int bytes) {
        YoungerBench b = new YoungerBench();
        Calls.tape(b, text);
        Calls.due("end(" + bytes + ")", b.end(bytes), bytes);
        return b;
    }

    /** What was cut off tells nothing, though it may lie there still. */
    private static void cutBytesAreGone() {
        Calls.due("blanks", cut("town 1 5;   ", 9).town(), Calls.fault(9, 0));
        Calls.due("letters", cut("towns", 4).town(), Calls.fault(4, 0));
        YoungerBench b = cut("town 1 55", 8);
        Calls.due("digits", b.town(), 0);
        Calls.due("YEAR", b.count(1), 5);
        Calls.due("all", cut("town 1 5", 0).town(), Calls.fault(0, 0));
        Calls.due("a CLAUSE", cut("town 1 5;person 1 1 1", 8).town(), 0);
        Calls.due("more digits", cut("right 123456", 11).rule(), 0);
        Calls.due("the second of two signs", cut("right 1 if 1<=1", 13).rule(), Calls.fault(13, 0));
        Calls.due("a word's end", cut("right witty", 9).rule(), 0);
        YoungerBench c = cut("town 1 5xxxxxxxxxxxx", 8);
        c.feed(0x3B706572, 0x736F6E20, 0x37203820, 0x39202020, 0x20202020);
        Calls.due("what comes behind the cut", c.town(), 1);
        Calls.due("AGE", c.person(0, 0), 7);
    }
}
