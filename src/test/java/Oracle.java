import java.math.BigInteger;
import java.util.ArrayList;
import java.util.Arrays;
import java.util.List;

/**
 * The document once more, sentence by sentence and by other means: every day of a hearing looked at, every row of
 * BENCHES gone through, sums in numbers without a bound. Slow; it is here only to be compared with the class.
 */
final class Oracle {
    static final int NONE = -1;

    static final class Fault extends Exception {
        private static final long serialVersionUID = 1L;
        final int number;

        Fault(int place, int kind) {
            super("at " + place, null, false, false);
            number = 1 + 8 * place + kind;
        }
    }

    static final class Person {
        int age;
        int wit;
        int sweets;
        int twins;
        int ruled;
    }

    static final class Case {
        int accused;
        int gravity;
        int length;
        int from;
        int judge = NONE;
        int toGo;
        int promised;
        int ruler = NONE;
        int right = NONE;
        int rulerAge = NONE;
        int times;
    }

    static final class Fact {
        int trial;
        int what;
        int number;
    }

    /** All but the TAPE, the RULES, the IMAGES and what can be UNDONE. */
    static final class World {
        boolean told;
        int gap;
        int year;
        int first;
        int last;
        int day;
        int x;
        int inForce = NONE;
        List<Person> people = new ArrayList<>();
        List<Case> cases = new ArrayList<>();
        List<Fact> facts = new ArrayList<>();

        World copy() {
            World w = new World();
            w.told = told;
            w.gap = gap;
            w.year = year;
            w.first = first;
            w.last = last;
            w.day = day;
            w.x = x;
            w.inForce = inForce;
            for (Person p : people) {
                Person q = new Person();
                q.age = p.age;
                q.wit = p.wit;
                q.sweets = p.sweets;
                q.twins = p.twins;
                q.ruled = p.ruled;
                w.people.add(q);
            }
            for (Case c : cases) {
                Case d = new Case();
                d.accused = c.accused;
                d.gravity = c.gravity;
                d.length = c.length;
                d.from = c.from;
                d.judge = c.judge;
                d.toGo = c.toGo;
                d.promised = c.promised;
                d.ruler = c.ruler;
                d.right = c.right;
                d.rulerAge = c.rulerAge;
                d.times = c.times;
                w.cases.add(d);
            }
            w.facts.addAll(facts);
            return w;
        }
    }

    interface Sum {
        BigInteger of(long[] words);
    }

    interface Test {
        boolean of(long[] words);
    }

    static final class Clause {
        Sum sum;
        Test test;
    }

    private StringBuilder tape = new StringBuilder();
    private final List<List<Clause>> rules = new ArrayList<>();
    private World w = new World();
    private final List<World> before = new ArrayList<>();
    private final World[] images = new World[4];

    // ---- the TAPE and the texts

    int feed(int a, int b, int c, int d, int e) {
        if (tape.length() > 380) {
            return NONE;
        }
        for (int n : new int[] {a, b, c, d, e}) {
            tape.append((char) (n >> 24 & 255)).append((char) (n >> 16 & 255));
            tape.append((char) (n >> 8 & 255)).append((char) (n & 255));
        }
        return tape.length();
    }

    int end(int n) {
        if (n < 0 || n > tape.length()) {
            return NONE;
        }
        tape.setLength(n);
        return n;
    }

    /** A text in tokens: of each its place and its signs; the last is the end. */
    static final class Tokens {
        final List<String> signs = new ArrayList<>();
        final List<Integer> places = new ArrayList<>();
        int at = 0;
        int values = 0;

        Tokens(String text) {
            int i = 0;
            while (i < text.length()) {
                int j = i + 1;
                char c = text.charAt(i);
                if (isLetter(c)) {
                    while (j < text.length() && isLetter(text.charAt(j))) {
                        j++;
                    }
                } else if (isDigit(c)) {
                    while (j < text.length() && isDigit(text.charAt(j))) {
                        j++;
                    }
                } else if ((c == '<' || c == '>') && j < text.length() && text.charAt(j) == '=') {
                    j++;
                }
                if (c != ' ') {
                    signs.add(text.substring(i, j));
                    places.add(i);
                }
                i = j;
            }
            signs.add("");
            places.add(text.length());
        }

        static boolean isLetter(char c) {
            return "abcdefghijklmnopqrstuvwxyz".indexOf(c) >= 0;
        }

        static boolean isDigit(char c) {
            return "0123456789".indexOf(c) >= 0;
        }

        String next() {
            return signs.get(at);
        }

        boolean nextIs(String... some) {
            return Arrays.asList(some).contains(next());
        }

        String take() {
            at++;
            return signs.get(at - 1);
        }

        Fault fault(int kind) {
            return new Fault(places.get(at), kind);
        }

        boolean atNumber() {
            return !next().isEmpty() && isDigit(next().charAt(0));
        }

        int number(int low, int high) throws Fault {
            if (!atNumber()) {
                throw fault(0);
            }
            if (next().length() > 5 || Integer.parseInt(next()) < low || Integer.parseInt(next()) > high) {
                throw fault(1);
            }
            return Integer.parseInt(take());
        }
    }

    static World readTown(String text) throws Fault {
        Tokens t = new Tokens(text);
        World w = new World();
        w.last = 9999;
        int benches = 0;
        int twins = 0;
        int clauses = 0;
        while (true) {
            if (!t.nextIs("town", "bench", "person", "twins", "case")) {
                throw t.fault(0);
            }
            boolean tooMany = ++clauses > 40 || t.nextIs("town") == w.told
                    || t.nextIs("bench") && benches == 1 || t.nextIs("person") && w.people.size() == 7
                    || t.nextIs("twins") && twins == 4 || t.nextIs("case") && w.cases.size() == 6;
            if (tooMany) {
                throw t.fault(4);
            }
            String word = t.take();
            if (word.equals("town")) {
                w.gap = t.number(1, 99);
                w.year = t.number(5, 99);
                w.told = true;
            } else if (word.equals("bench")) {
                w.first = t.number(0, 9999);
                w.last = t.number(w.first, 9999);
                benches++;
            } else if (word.equals("person")) {
                Person p = new Person();
                p.age = t.number(0, 9999);
                p.wit = t.number(0, 9);
                p.sweets = t.number(0, 9);
                w.people.add(p);
            } else if (word.equals("twins")) {
                int one = t.number(0, w.people.size() - 1);
                Fault here = t.fault(1);
                int other = t.number(0, w.people.size() - 1);
                if (other == one) {
                    throw here;
                }
                w.people.get(one).twins |= 1 << other;
                w.people.get(other).twins |= 1 << one;
                twins++;
            } else {
                Case c = new Case();
                c.accused = t.number(0, w.people.size() - 1);
                c.gravity = t.number(1, 9);
                c.length = t.number(1, 9);
                c.from = t.number(0, 99);
                w.cases.add(c);
            }
            if (t.nextIs("")) {
                return w;
            }
            if (!t.nextIs(";")) {
                throw t.fault(0);
            }
            t.take();
        }
    }

    static List<Clause> readRule(String text) throws Fault {
        Tokens t = new Tokens(text);
        List<Clause> clauses = new ArrayList<>();
        while (true) {
            if (!t.nextIs("right")) {
                throw t.fault(0);
            }
            if (clauses.size() == 12) {
                throw t.fault(4);
            }
            t.take();
            Clause clause = new Clause();
            clause.sum = readSum(t);
            if (t.nextIs("if")) {
                t.take();
                clause.test = readTest(t, 0);
            }
            clauses.add(clause);
            if (t.nextIs("")) {
                return clauses;
            }
            if (!t.nextIs(";")) {
                throw t.fault(0);
            }
            t.take();
        }
    }

    static Test readTest(Tokens t, int deep) throws Fault {
        Test test = readPart(t, deep);
        while (t.nextIs("or")) {
            t.take();
            Test one = test;
            Test other = readPart(t, deep);
            test = words -> one.of(words) || other.of(words);
        }
        return test;
    }

    static Test readPart(Tokens t, int deep) throws Fault {
        Test part = readFact(t, deep);
        while (t.nextIs("and")) {
            t.take();
            Test one = part;
            Test other = readFact(t, deep);
            part = words -> one.of(words) && other.of(words);
        }
        return part;
    }

    static Test readFact(Tokens t, int deep) throws Fault {
        if (t.nextIs("not", "[") && deep == 10) {
            throw t.fault(2);
        }
        if (t.nextIs("not")) {
            t.take();
            Test fact = readFact(t, deep + 1);
            return words -> !fact.of(words);
        }
        if (t.nextIs("[")) {
            t.take();
            Test test = readTest(t, deep + 1);
            if (!t.nextIs("]")) {
                throw t.fault(0);
            }
            t.take();
            return test;
        }
        Sum one = readSum(t);
        if (!t.nextIs("<", "<=", "=", ">=", ">")) {
            throw t.fault(0);
        }
        if (++t.values > 60) {
            throw t.fault(3);
        }
        String sign = t.take();
        Sum other = readSum(t);
        return words -> {
            int c = one.of(words).compareTo(other.of(words));
            return c < 0 && sign.startsWith("<") || c == 0 && sign.endsWith("=") || c > 0 && sign.startsWith(">");
        };
    }

    static BigInteger round(BigInteger n) {
        BigInteger all = BigInteger.ONE.shiftLeft(64);
        BigInteger rest = n.mod(all);
        return rest.testBit(63) ? rest.subtract(all) : rest;
    }

    static Sum readSum(Tokens t) throws Fault {
        Sum sum = readTerm(t);
        while (t.nextIs("+", "-")) {
            boolean plus = t.take().equals("+");
            Sum one = sum;
            Sum other = readTerm(t);
            sum = words -> round(plus ? one.of(words).add(other.of(words)) : one.of(words).subtract(other.of(words)));
        }
        return sum;
    }

    static Sum readTerm(Tokens t) throws Fault {
        Sum term = readValue(t);
        while (t.nextIs("*", "/", "%")) {
            String sign = t.take();
            Sum one = term;
            Sum other = readValue(t);
            term = words -> {
                BigInteger a = one.of(words);
                BigInteger b = other.of(words);
                if (sign.equals("*")) {
                    return round(a.multiply(b));
                }
                if (b.signum() == 0) {
                    return b;
                }
                return round(sign.equals("/") ? a.divide(b) : a.remainder(b));
            };
        }
        return term;
    }

    static final List<String> WORDS = Arrays.asList("judge", "wit", "age", "sweets", "accused", "gravity", "length",
            "older", "day", "ruled", "appeal", "birthday");

    static Sum readValue(Tokens t) throws Fault {
        if (!t.atNumber() && !WORDS.contains(t.next())) {
            throw t.fault(0);
        }
        if (t.atNumber() && t.next().length() > 5) {
            throw t.fault(1);
        }
        if (++t.values > 60) {
            throw t.fault(3);
        }
        String sign = t.take();
        int word = WORDS.indexOf(sign);
        if (word >= 0) {
            return words -> BigInteger.valueOf(words[word]);
        }
        BigInteger number = new BigInteger(sign);
        return words -> number;
    }

    private String takeTape() {
        String text = tape.toString();
        tape.setLength(0);
        return text;
    }

    int town() {
        try {
            World told = readTown(takeTape());
            told.x = w.x;
            told.inForce = w.inForce;
            w = told;
            before.clear();
            return w.people.size();
        } catch (Fault f) {
            return -2 - f.number;
        }
    }

    int rule() {
        if (rules.size() == 6) {
            return NONE;
        }
        try {
            rules.add(readRule(takeTape()));
            return rules.size() - 1;
        } catch (Fault f) {
            return -2 - f.number;
        }
    }

    int force(int rule) {
        if (rule != NONE && (rule < 0 || rule >= rules.size())) {
            return -2;
        }
        int was = w.inForce;
        w.inForce = rule;
        return was;
    }

    // ---- AGE, CAN, RIGHT

    boolean isPerson(int p) {
        return p >= 0 && p < w.people.size();
    }

    boolean isCase(int c) {
        return c >= 0 && c < w.cases.size();
    }

    int ageOn(int p, int day) {
        return w.people.get(p).age + day;
    }

    boolean isBirthday(int p, int day) {
        return ageOn(p, day) % w.year == 0;
    }

    int tillBirthday(int p, int day) {
        int days = 1;
        while (!isBirthday(p, day + days)) {
            days++;
        }
        return days;
    }

    boolean sits(int p, int day) {
        return ageOn(p, day) >= w.first && ageOn(p, day) <= w.last;
    }

    boolean isYounger(int p, int q) {
        return w.people.get(p).age + w.gap <= w.people.get(q).age;
    }

    boolean canHear(Case c, int judge, int day) {
        if (day < c.from || !isYounger(judge, c.accused) || (w.people.get(c.accused).twins >> judge & 1) != 0) {
            return false;
        }
        for (int d = day; d < day + c.length; d++) {
            if (!sits(judge, d) || isBirthday(judge, d)) {
                return false;
            }
        }
        return true;
    }

    int rightOf(Case c, int judge, int day, int ruled, int appeal) {
        Person p = w.people.get(judge);
        BigInteger sum = BigInteger.ZERO;
        if (w.inForce == NONE) {
            sum = BigInteger.valueOf(50 + 5 * p.wit - 4 * c.gravity - 3 * p.sweets);
        } else {
            long[] words = {judge, p.wit, ageOn(judge, day), p.sweets, c.accused, c.gravity, c.length,
                ageOn(c.accused, day) - ageOn(judge, day), day, ruled, appeal, tillBirthday(judge, day)};
            for (Clause clause : rules.get(w.inForce)) {
                if (clause.test == null || clause.test.of(words)) {
                    sum = clause.sum.of(words);
                    break;
                }
            }
        }
        return sum.signum() < 0 ? 0 : sum.compareTo(BigInteger.valueOf(100)) > 0 ? 100 : sum.intValue();
    }

    int rightNow(Case c, int judge) {
        return rightOf(c, judge, w.day, w.people.get(judge).ruled, c.times);
    }

    int hearsNow(int judge) {
        for (int c = 0; c < w.cases.size(); c++) {
            if (w.cases.get(c).judge == judge) {
                return c;
            }
        }
        return NONE;
    }

    int person(int p, int what) {
        if (!isPerson(p) || what < 0 || what > 7) {
            return NONE;
        }
        Person q = w.people.get(p);
        int[] all = {ageOn(p, w.day), q.wit, q.sweets, q.twins, tillBirthday(p, w.day), hearsNow(p), q.ruled,
            sits(p, w.day) ? 1 : 0};
        return all[what];
    }

    int trial(int trial, int what) {
        if (!isCase(trial) || what < 0 || what > 9) {
            return -2;
        }
        Case c = w.cases.get(trial);
        int[] all = {c.accused, c.gravity, c.length, c.from, c.judge, c.toGo, c.ruler, c.right, c.rulerAge, c.times};
        return all[what];
    }

    int can(int trial, int judge, int day) {
        if (!isCase(trial) || !isPerson(judge) || day < 0 || day > 999) {
            return NONE;
        }
        return canHear(w.cases.get(trial), judge, day) ? 1 : 0;
    }

    int right(int trial, int judge) {
        return isCase(trial) && isPerson(judge) ? rightNow(w.cases.get(trial), judge) : NONE;
    }

    // ---- ACTS

    void act() {
        before.add(w.copy());
        if (before.size() > 20) {
            before.remove(0);
        }
    }

    List<Case> pass() {
        List<Case> ruled = new ArrayList<>();
        for (Case c : w.cases) {
            if (c.judge != NONE) {
                c.toGo--;
                if (c.toGo == 0) {
                    c.ruler = c.judge;
                    c.right = c.promised;
                    c.rulerAge = ageOn(c.judge, w.day);
                    c.times++;
                    w.people.get(c.judge).ruled++;
                    c.judge = NONE;
                    ruled.add(c);
                }
            }
        }
        w.day++;
        return ruled;
    }

    int day() {
        if (!w.told || w.day == 999) {
            return NONE;
        }
        act();
        return pass().size();
    }

    boolean mayHear(Case c, int judge) {
        return c.judge == NONE && hearsNow(judge) == NONE && canHear(c, judge, w.day)
                && (c.times == 0 || isYounger(judge, c.ruler));
    }

    int begin(Case c, int judge) {
        c.promised = rightNow(c, judge);
        c.judge = judge;
        c.toGo = c.length;
        return c.promised;
    }

    int hear(int trial, int judge) {
        if (!isCase(trial) || !isPerson(judge) || !mayHear(w.cases.get(trial), judge)) {
            return NONE;
        }
        act();
        return begin(w.cases.get(trial), judge);
    }

    int teach(int p) {
        if (!isPerson(p) || w.people.get(p).wit == 9) {
            return NONE;
        }
        act();
        return ++w.people.get(p).wit;
    }

    int undo() {
        if (before.isEmpty()) {
            return NONE;
        }
        World was = before.remove(before.size() - 1);
        was.x = w.x;
        was.inForce = w.inForce;
        was.facts = w.facts;
        w = was;
        return before.size();
    }

    // ---- what is asked

    int soonest(int trial, int judge) {
        if (!isCase(trial) || !isPerson(judge)) {
            return NONE;
        }
        for (int i = 0; i < 100; i++) {
            if (canHear(w.cases.get(trial), judge, w.day + i)) {
                return w.day + i;
            }
        }
        return -2;
    }

    /** The best row: RIGHT, last day, then CASES, judges, DAYS; null if there is none. */
    int[] best;

    List<Integer> open() {
        List<Integer> open = new ArrayList<>();
        for (int c = 0; c < w.cases.size(); c++) {
            if (w.cases.get(c).judge == NONE && w.cases.get(c).times == 0) {
                open.add(c);
            }
        }
        return open;
    }

    void findBest(List<Integer> open) {
        best = null;
        rowsOf(open, new ArrayList<>());
    }

    void rowsOf(List<Integer> open, List<Integer> row) {
        if (row.size() == open.size()) {
            judgesOf(row, new ArrayList<>());
            return;
        }
        for (int c : open) {
            if (!row.contains(c)) {
                row.add(c);
                rowsOf(open, row);
                row.remove(row.size() - 1);
            }
        }
    }

    void judgesOf(List<Integer> row, List<Integer> judges) {
        if (judges.size() == row.size()) {
            tryRow(row, judges);
            return;
        }
        for (int j = 0; j < w.people.size(); j++) {
            judges.add(j);
            judgesOf(row, judges);
            judges.remove(judges.size() - 1);
        }
    }

    void tryRow(List<Integer> row, List<Integer> judges) {
        int n = row.size();
        for (int k = 0; k < n; k++) {
            if (!isYounger(judges.get(k), w.cases.get(row.get(k)).accused)) {
                return;
            }
        }
        boolean[][] busy = new boolean[w.people.size()][120];
        for (Case c : w.cases) {
            for (int i = 0; c.judge != NONE && i < c.toGo; i++) {
                busy[c.judge][i] = true;
            }
        }
        int[] now = new int[2 + 3 * n];
        now[1] = NONE;
        for (int k = 0; k < n; k++) {
            Case c = w.cases.get(row.get(k));
            int j = judges.get(k);
            int begin = NONE;
            for (int i = 0; i < 100 && begin == NONE; i++) {
                boolean free = true;
                for (int d = i; d < i + c.length; d++) {
                    free &= !busy[j][d];
                }
                if (free && canHear(c, j, w.day + i)) {
                    begin = i;
                }
            }
            if (begin == NONE) {
                return;
            }
            for (int d = begin; d < begin + c.length; d++) {
                busy[j][d] = true;
                now[1] = Math.max(now[1], w.day + d);
            }
            now[0] += rightOf(c, j, w.day + begin, w.people.get(j).ruled, 0);
            now[2 + k] = row.get(k);
            now[2 + n + k] = j;
            now[2 + 2 * n + k] = w.day + begin;
        }
        if (best == null || now[0] > best[0] || now[0] == best[0] && now[1] < best[1]) {
            best = now;
        }
    }

    int benches(int what) {
        if (!w.told || what < 0 || what > 13) {
            return NONE;
        }
        List<Integer> open = open();
        int n = open.size();
        if (n > 4) {
            return -3;
        }
        findBest(open);
        if (best == null) {
            return -2;
        }
        if (what < 2) {
            return best[what];
        }
        int place = (what - 2) % 4;
        return place >= n ? -2 : best[2 + (what - 2) / 4 * n + place];
    }

    int lesson(int what) {
        if (!w.told || what < 0 || what > 1) {
            return NONE;
        }
        List<Integer> open = open();
        if (open.size() > 4) {
            return -3;
        }
        int who = -2;
        int most = -2;
        for (int p = 0; p < w.people.size(); p++) {
            if (w.people.get(p).wit < 9) {
                w.people.get(p).wit++;
                findBest(open);
                w.people.get(p).wit--;
                if (best != null && best[0] > most) {
                    who = p;
                    most = best[0];
                }
            }
        }
        return what == 0 ? who : most;
    }

    List<Integer> longest(Case c, int above) {
        List<Integer> longest = new ArrayList<>();
        for (int j = 0; j < w.people.size(); j++) {
            if ((above == NONE || isYounger(j, above)) && canHear(c, j, w.day)) {
                List<Integer> chain = new ArrayList<>();
                chain.add(j);
                chain.addAll(longest(c, j));
                if (chain.size() > longest.size()) {
                    longest = chain;
                }
            }
        }
        return longest;
    }

    int down(int trial, int what) {
        if (!isCase(trial) || what < 0 || what > 7) {
            return NONE;
        }
        Case c = w.cases.get(trial);
        List<Integer> chain = longest(c, c.ruler);
        return what == 0 ? chain.size() : what > chain.size() ? -2 : chain.get(what - 1);
    }

    int commit(int p, int gravity, int length, int n, int what) {
        if (!isPerson(p) || gravity < 1 || gravity > 9 || length < 1 || length > 9 || n < 1 || n > 60
                || what < 0 || what > 1) {
            return NONE;
        }
        int when = NONE;
        int least = 1000;
        for (int i = 0; i < n; i++) {
            Case c = new Case();
            c.accused = p;
            c.gravity = gravity;
            c.length = length;
            c.from = w.day + i;
            int most = 0;
            for (int j = 0; j < w.people.size(); j++) {
                if (canHear(c, j, w.day + i)) {
                    most = Math.max(most, rightOf(c, j, w.day + i, w.people.get(j).ruled, 0));
                }
            }
            if (most < least) {
                least = most;
                when = w.day + i;
            }
        }
        return what == 0 ? when : least;
    }

    int above(int n) {
        if (!w.told || n < 1 || n > 60) {
            return NONE;
        }
        int bits = 0;
        for (int p = 0; p < w.people.size(); p++) {
            boolean tried = false;
            for (int i = 0; i < n; i++) {
                for (int j = 0; j < w.people.size(); j++) {
                    Case c = new Case();
                    c.accused = p;
                    c.length = 1;
                    tried |= canHear(c, j, w.day + i);
                }
            }
            bits |= tried ? 0 : 1 << p;
        }
        return bits;
    }

    int clement(int trial, int what) {
        if (!isCase(trial) || what < 0 || what > 3) {
            return NONE;
        }
        Case c = w.cases.get(trial);
        int[] all = {-2, 1000, -2, -1000};
        for (int j = 0; j < w.people.size(); j++) {
            if (canHear(c, j, w.day)) {
                int right = rightNow(c, j);
                if (right < all[1]) {
                    all[0] = j;
                    all[1] = right;
                }
                if (right > all[3]) {
                    all[2] = j;
                    all[3] = right;
                }
            }
        }
        return all[0] < 0 ? -2 : all[what];
    }

    int fact(int trial, int what, int number) {
        if (trial == NONE) {
            w.facts = new ArrayList<>();
            return 0;
        }
        if (!isCase(trial) || what < 0 || what > 7 || number < 0 || number > 9999 || w.facts.size() == 10) {
            return -2;
        }
        Fact f = new Fact();
        f.trial = trial;
        f.what = what;
        f.number = number;
        w.facts = new ArrayList<>(w.facts);
        w.facts.add(f);
        return w.facts.size();
    }

    /** Of each one that may be: judge, DAY, RIGHT. */
    List<int[]> suspects(int trial) {
        Case c = w.cases.get(trial);
        List<int[]> all = new ArrayList<>();
        for (int j = 0; j < w.people.size(); j++) {
            for (int d = 0; d <= 60; d++) {
                if (!canHear(c, j, d)) {
                    continue;
                }
                int right = rightOf(c, j, d, 0, 0);
                boolean so = true;
                for (Fact f : w.facts) {
                    if (f.trial == trial) {
                        switch (f.what) {
                            case 0: so &= ageOn(j, d) >= f.number; break;
                            case 1: so &= ageOn(j, d) <= f.number; break;
                            case 2: so &= w.people.get(j).wit >= f.number; break;
                            case 3: so &= w.people.get(j).wit <= f.number; break;
                            case 4: so &= d >= f.number; break;
                            case 5: so &= d <= f.number; break;
                            case 6: so &= right >= f.number; break;
                            default: so &= right <= f.number; break;
                        }
                    }
                }
                if (so) {
                    all.add(new int[] {j, d, right});
                }
            }
        }
        return all;
    }

    int who(int trial, int what) {
        if (!isCase(trial) || what < 0 || what > 3) {
            return NONE;
        }
        List<int[]> all = suspects(trial);
        int bits = 0;
        for (int[] one : all) {
            bits |= 1 << one[0];
        }
        if (what == 0) {
            return all.size();
        }
        if (what == 3) {
            return bits;
        }
        return all.isEmpty() ? -2 : all.get(0)[what - 1];
    }

    int look(int trial, int what) {
        if (!isCase(trial) || what < 0 || what > 1) {
            return NONE;
        }
        List<int[]> all = suspects(trial);
        if (all.isEmpty()) {
            return -2;
        }
        int which = NONE;
        int fewest = Integer.MAX_VALUE;
        for (int part = 0; part < 3; part++) {
            int most = 0;
            for (int[] one : all) {
                int alike = 0;
                for (int[] other : all) {
                    alike += one[part] == other[part] ? 1 : 0;
                }
                most = Math.max(most, alike);
            }
            if (most < fewest) {
                fewest = most;
                which = part;
            }
        }
        return what == 0 ? which : fewest;
    }

    int seed(int x) {
        if (x < 0) {
            return NONE;
        }
        int was = w.x;
        w.x = x;
        return was;
    }

    int draw() {
        w.x = BigInteger.valueOf(w.x).multiply(BigInteger.valueOf(1103515245)).add(BigInteger.valueOf(12345))
                .mod(BigInteger.valueOf(2147483648L)).intValue();
        return w.x / 65536;
    }

    int years(int m, int n, int what) {
        if (!w.told || m < 1 || m > 10 || n < 1 || n > 99 || what < 0 || what > 1) {
            return NONE;
        }
        if (w.people.isEmpty()) {
            return 0;
        }
        World was = w;
        int x = w.x;
        int rightly = 0;
        int all = 0;
        for (int time = 0; time < m; time++) {
            w = was.copy();
            w.x = x;
            for (int d = 0; d < n; d++) {
                int judge = draw() % w.people.size();
                for (Case c : w.cases) {
                    if (mayHear(c, judge)) {
                        begin(c, judge);
                        break;
                    }
                }
                for (Case c : pass()) {
                    all++;
                    rightly += draw() % 100 < c.right ? 1 : 0;
                }
            }
            x = w.x;
        }
        w = was;
        return what == 0 ? rightly : all;
    }

    int count(int what) {
        int heard = 0;
        int ruled = 0;
        for (int c = 0; c < w.cases.size(); c++) {
            heard |= w.cases.get(c).judge == NONE ? 0 : 1 << c;
            ruled |= w.cases.get(c).times == 0 ? 0 : 1 << c;
        }
        int[] all = {w.gap, w.year, w.people.size(), w.cases.size(), rules.size(), w.inForce, w.day, heard, ruled,
            w.told ? w.first : NONE, w.told ? w.last : NONE, w.facts.size(), before.size(), w.x, tape.length()};
        return what < 0 || what > 14 ? NONE : all[what];
    }

    int image(int k) {
        if (k < 0 || k > 3) {
            return NONE;
        }
        images[k] = w.copy();
        return w.day;
    }

    int back(int k) {
        if (k < 0 || k > 3 || images[k] == null) {
            return NONE;
        }
        w = images[k].copy();
        before.clear();
        return w.day;
    }
}
