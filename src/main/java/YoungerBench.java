import java.util.Arrays;

/**
 * A town in which one is judged only by the younger: told in a language, gone through by days and acts,
 * and asked who may hear what, when, and how rightly. The document of the project says what each call answers.
 */
public final class YoungerBench {
    public static final int NONE = -1;

    private static final int NO_SUCH = -2;
    private static final int MORE_THAN_FOUR = -3;

    private static final int MOST_BYTES = 400;
    private static final int BYTES_A_FEED = 20;
    private static final int MOST_PEOPLE = 7;
    private static final int MOST_TWINS = 4;
    private static final int MOST_CASES = 6;
    private static final int MOST_RULES = 6;
    private static final int MOST_FACTS = 10;
    private static final int MOST_IMAGES = 4;
    private static final int MOST_UNDONE = 20;
    private static final int MOST_WIT = 9;
    private static final int MOST_AGE = 9999;
    private static final int LAST_DAY = 999;
    private static final int DAYS_LOOKED_AT = 100;
    private static final int DAYS_ASKED = 60;
    private static final int MOST_RIGHT = 100;

    /** All words of both languages; the first twelve are the WORDS of a judge and a CASE. */
    private static final String WORDS =
            "judge wit age sweets accused gravity length older day ruled appeal birthday right if or and not town bench person twins case ";
    private static final int WORD_JUDGE = 0;
    private static final int WORD_WIT = 1;
    private static final int WORD_AGE = 2;
    private static final int WORD_SWEETS = 3;
    private static final int WORD_ACCUSED = 4;
    private static final int WORD_GRAVITY = 5;
    private static final int WORD_LENGTH = 6;
    private static final int WORD_OLDER = 7;
    private static final int WORD_DAY = 8;
    private static final int WORD_RULED = 9;
    private static final int WORD_APPEAL = 10;
    private static final int WORD_BIRTHDAY = 11;
    private static final int VALUE_WORDS = 12;
    private static final int WORD_RIGHT = 12;
    private static final int WORD_IF = 13;
    private static final int WORD_OR = 14;
    private static final int WORD_AND = 15;
    private static final int WORD_NOT = 16;
    private static final int WORD_TOWN = 17;
    private static final int WORD_BENCH = 18;
    private static final int WORD_PERSON = 19;
    private static final int WORD_TWINS = 20;
    private static final int WORD_CASE = 21;

    private static final int CANT_STAND = 0;
    private static final int WRONG_NUMBER = 1;
    private static final int TOO_DEEP = 2;
    private static final int ONE_VALUE_TOO_MANY = 3;
    private static final int ONE_CLAUSE_TOO_MANY = 4;

    private final int[] tape = new int[MOST_BYTES];
    private final Reader reader = new Reader(tape);
    private final Rule[] rules = new Rule[MOST_RULES];
    private final State now = new State();
    private final State[] images = new State[MOST_IMAGES];
    private final Past past = new Past();
    private final Law law = new Law(now, rules);
    private final Rows rows = new Rows(law);
    private final Sieve sieve = new Sieve(law);
    private final Town draft = new Town();
    private final TownReader townReader = new TownReader(reader, draft);
    private final RuleReader ruleReader = new RuleReader(reader);
    private final Course kept = new Course();
    private final int[] chains = new int[MOST_PEOPLE];
    private int tapeBytes;
    private int rulesTold;

    public YoungerBench() {
        tapeBytes = 0;
        rulesTold = 0;
    }

    public int feed(int a, int b, int c, int d, int e) {
        if (tapeBytes + BYTES_A_FEED > MOST_BYTES) {
            return NONE;
        }
        putBytes(a);
        putBytes(b);
        putBytes(c);
        putBytes(d);
        putBytes(e);
        return tapeBytes;
    }

    private void putBytes(int number) {
        for (int shift = 24; shift >= 0 && tapeBytes < MOST_BYTES; shift -= 8) {
            tape[tapeBytes] = (number >>> shift) & 255;
            tapeBytes++;
        }
    }

    public int end(int n) {
        if (n < 0 || n > tapeBytes) {
            return NONE;
        }
        tapeBytes = n;
        return n;
    }

    public int town() {
        openTape();
        if (!townReader.reads()) {
            return NO_SUCH - reader.fault;
        }
        now.settle(draft);
        past.forget();
        return now.town.people;
    }

    /** A TAPE that is read is empty then, with a FAULT or without: the reader alone knows how long it was. */
    private void openTape() {
        reader.open(tapeBytes);
        tapeBytes = 0;
    }

    public int rule() {
        if (rulesTold >= MOST_RULES) {
            return NONE;
        }
        openTape();
        if (!ruleReader.reads()) {
            return NO_SUCH - reader.fault;
        }
        rules[rulesTold] = ruleReader.made();
        rulesTold++;
        return rulesTold - 1;
    }

    public int force(int rule) {
        if (rule < NONE || rule >= rulesTold) {
            return NO_SUCH;
        }
        int was = now.inForce;
        now.inForce = rule;
        return was;
    }

    public int person(int person, int what) {
        if (!now.town.hasPerson(person)) {
            return NONE;
        }
        Town town = now.town;
        Course course = now.course;
        int age = town.age[person] + course.day;
        switch (what) {
            case 0: return age;
            case 1: return course.wit[person];
            case 2: return town.sweets[person];
            case 3: return town.twins[person];
            case 4: return town.tillBirthday(age);
            case 5: return course.heardBy(person);
            case 6: return course.ruled[person];
            case 7: return town.sits(age) ? 1 : 0;
            default: return NONE;
        }
    }

    public int trial(int trial, int what) {
        if (!now.town.hasCase(trial)) {
            return NO_SUCH;
        }
        Town town = now.town;
        Course course = now.course;
        switch (what) {
            case 0: return town.accused[trial];
            case 1: return town.gravity[trial];
            case 2: return town.length[trial];
            case 3: return town.from[trial];
            case 4: return course.judge[trial];
            case 5: return course.toGo[trial];
            case 6: return course.ruler[trial];
            case 7: return course.right[trial];
            case 8: return course.rulerAge[trial];
            case 9: return course.times[trial];
            default: return NO_SUCH;
        }
    }

    public int can(int trial, int judge, int day) {
        if (!hasBoth(trial, judge) || day < 0 || day > LAST_DAY) {
            return NONE;
        }
        return law.canHear(trial, judge, day) ? 1 : 0;
    }

    public int right(int trial, int judge) {
        return hasBoth(trial, judge) ? law.rightNow(trial, judge) : NONE;
    }

    private boolean hasBoth(int trial, int judge) {
        return now.town.hasCase(trial) && now.town.hasPerson(judge);
    }

    public int day() {
        if (!now.town.told || now.course.day >= LAST_DAY) {
            return NONE;
        }
        past.keep(now.course);
        return Integer.bitCount(now.course.pass(now.town));
    }

    public int hear(int trial, int judge) {
        if (!hasBoth(trial, judge) || !law.mayHear(trial, judge)) {
            return NONE;
        }
        past.keep(now.course);
        law.begin(trial, judge);
        return now.course.rightToBe[trial];
    }

    public int teach(int person) {
        if (!now.town.hasPerson(person) || now.course.wit[person] >= MOST_WIT) {
            return NONE;
        }
        past.keep(now.course);
        now.course.wit[person]++;
        return now.course.wit[person];
    }

    public int undo() {
        return past.takeBack(now.course) ? past.many : NONE;
    }

    public int soonest(int trial, int judge) {
        if (!hasBoth(trial, judge)) {
            return NONE;
        }
        int today = now.course.day;
        for (int day = today; day < today + DAYS_LOOKED_AT; day++) {
            if (law.canHear(trial, judge, day)) {
                return day;
            }
        }
        return NO_SUCH;
    }

    public int benches(int what) {
        if (!now.town.told || what < 0 || what > 13) {
            return NONE;
        }
        return rows.answer(what);
    }

    public int down(int trial, int what) {
        if (!now.town.hasCase(trial) || what < 0 || what > MOST_PEOPLE) {
            return NONE;
        }
        measureChains(trial);
        int above = now.course.ruler[trial];
        int longest = longestBelow(above);
        if (what == 0) {
            return longest;
        }
        if (what > longest) {
            return NO_SUCH;
        }
        int judge = above;
        for (int place = 1; place <= what; place++) {
            judge = firstBelow(judge, longest - place + 1);
        }
        return judge;
    }

    /** Each round settles the judges whose chains are one longer, and no chain is longer than the PEOPLE are many. */
    private void measureChains(int trial) {
        int people = now.town.people;
        for (int judge = 0; judge < people; judge++) {
            chains[judge] = 0;
        }
        for (int round = 0; round < people; round++) {
            for (int judge = 0; judge < people; judge++) {
                if (law.canHear(trial, judge, now.course.day)) {
                    chains[judge] = 1 + longestBelow(judge);
                }
            }
        }
    }

    private int longestBelow(int above) {
        int longest = 0;
        for (int judge = 0; judge < now.town.people; judge++) {
            if (isBelow(judge, above)) {
                longest = Math.max(longest, chains[judge]);
            }
        }
        return longest;
    }

    private int firstBelow(int above, int chain) {
        for (int judge = 0; judge < now.town.people; judge++) {
            if (chains[judge] == chain && isBelow(judge, above)) {
                return judge;
            }
        }
        return NO_SUCH;
    }

    /** Below nobody, as in a CASE that was never ruled, is everybody. */
    private boolean isBelow(int judge, int above) {
        return above < 0 || now.town.isYounger(judge, above);
    }

    public int commit(int person, int gravity, int length, int n, int what) {
        boolean told = now.town.hasPerson(person) && isDigit(gravity) && isDigit(length);
        if (!told || n < 1 || n > DAYS_ASKED || what < 0 || what > 1) {
            return NONE;
        }
        law.charge(person, gravity, length, 0);
        int today = now.course.day;
        int best = today;
        int least = MOST_RIGHT + 1;
        for (int day = today; day < today + n; day++) {
            int most = mostRight(person, length, day);
            if (most < least) {
                least = most;
                best = day;
            }
        }
        return what == 0 ? best : least;
    }

    private static boolean isDigit(int number) {
        return number >= 1 && number <= 9;
    }

    private int mostRight(int accused, int length, int day) {
        int most = 0;
        for (int judge = 0; judge < now.town.people; judge++) {
            if (law.canSit(judge, accused, length, day)) {
                most = Math.max(most, law.rightOf(judge, day, now.course.ruled[judge]));
            }
        }
        return most;
    }

    public int above(int n) {
        if (!now.town.told || n < 1 || n > DAYS_ASKED) {
            return NONE;
        }
        int bits = 0;
        for (int person = 0; person < now.town.people; person++) {
            if (!isTriable(person, n)) {
                bits |= 1 << person;
            }
        }
        return bits;
    }

    private boolean isTriable(int accused, int days) {
        int today = now.course.day;
        for (int judge = 0; judge < now.town.people; judge++) {
            for (int day = today; day < today + days; day++) {
                if (law.canSit(judge, accused, 1, day)) {
                    return true;
                }
            }
        }
        return false;
    }

    public int lesson(int what) {
        if (!now.town.told || what < 0 || what > 1) {
            return NONE;
        }
        return rows.bestPupil(what == 0);
    }

    public int clement(int trial, int what) {
        if (!now.town.hasCase(trial) || what < 0 || what > 3) {
            return NONE;
        }
        boolean least = what < 2;
        int who = NO_SUCH;
        int bestRight = NO_SUCH;
        for (int judge = 0; judge < now.town.people; judge++) {
            if (law.canHear(trial, judge, now.course.day)) {
                int right = law.rightNow(trial, judge);
                if (who < 0 || (least ? right < bestRight : right > bestRight)) {
                    who = judge;
                    bestRight = right;
                }
            }
        }
        return (what & 1) == 0 ? who : bestRight;
    }

    public int fact(int trial, int what, int number) {
        if (trial == NONE) {
            now.facts = 0;
            return 0;
        }
        boolean told = now.town.hasCase(trial) && what >= 0 && what <= 7 && number >= 0 && number <= MOST_AGE;
        if (!told || now.facts >= MOST_FACTS) {
            return NO_SUCH;
        }
        now.addFact(trial, what, number);
        return now.facts;
    }

    public int who(int trial, int what) {
        if (!now.town.hasCase(trial) || what < 0 || what > 3) {
            return NONE;
        }
        sieve.sift(trial);
        switch (what) {
            case 0: return sieve.many;
            case 1: return sieve.judge;
            case 2: return sieve.day;
            default: return sieve.bits;
        }
    }

    public int look(int trial, int what) {
        if (!now.town.hasCase(trial) || what < 0 || what > 1) {
            return NONE;
        }
        sieve.sift(trial);
        return sieve.part(what == 0);
    }

    public int seed(int x) {
        if (x < 0) {
            return NONE;
        }
        int was = now.x;
        now.x = x;
        return was;
    }

    public int years(int m, int n, int what) {
        boolean told = now.town.told && m >= 1 && m <= 10 && n >= 1 && n <= 99;
        if (!told || what < 0 || what > 1) {
            return NONE;
        }
        int x = now.x;
        int rightly = 0;
        int ruled = 0;
        kept.copy(now.course);
        for (int time = 0; time < m; time++) {
            for (int day = 0; day < n; day++) {
                hearByDraw();
                int bits = now.course.pass(now.town);
                ruled += Integer.bitCount(bits);
                rightly += ruledRightly(bits);
            }
            now.course.copy(kept);
        }
        now.x = x;
        return what == 0 ? rightly : ruled;
    }

    private void hearByDraw() {
        int people = now.town.people;
        if (people <= 0) {
            return;
        }
        int judge = now.draw() % people;
        for (int trial = 0; trial < now.town.cases; trial++) {
            if (law.mayHear(trial, judge)) {
                law.begin(trial, judge);
                return;
            }
        }
    }

    private int ruledRightly(int bits) {
        int rightly = 0;
        for (int trial = 0; trial < now.town.cases; trial++) {
            if ((bits >> trial & 1) != 0 && now.draw() % 100 < now.course.right[trial]) {
                rightly++;
            }
        }
        return rightly;
    }

    public int count(int what) {
        Town town = now.town;
        switch (what) {
            case 0: return town.gap;
            case 1: return town.year;
            case 2: return town.people;
            case 3: return town.cases;
            case 4: return rulesTold;
            case 5: return now.inForce;
            case 6: return now.course.day;
            case 7: return now.course.heardBits(town.cases);
            case 8: return now.course.ruledBits(town.cases);
            case 9: return town.told ? town.first : NONE;
            case 10: return town.told ? town.last : NONE;
            case 11: return now.facts;
            case 12: return past.many;
            case 13: return now.x;
            case 14: return tapeBytes;
            default: return NONE;
        }
    }

    public int image(int k) {
        if (k < 0 || k >= MOST_IMAGES) {
            return NONE;
        }
        if (images[k] == null) {
            images[k] = new State();
        }
        images[k].copy(now);
        return now.course.day;
    }

    public int back(int k) {
        if (k < 0 || k >= MOST_IMAGES || images[k] == null) {
            return NONE;
        }
        now.copy(images[k]);
        past.forget();
        return now.course.day;
    }

    /** What the TOWN's text tells; nothing of it changes by ACTS. */
    private static final class Town {
        final int[] age = new int[MOST_PEOPLE];
        final int[] wit = new int[MOST_PEOPLE];
        final int[] sweets = new int[MOST_PEOPLE];
        final int[] twins = new int[MOST_PEOPLE];
        final int[] accused = new int[MOST_CASES];
        final int[] gravity = new int[MOST_CASES];
        final int[] length = new int[MOST_CASES];
        final int[] from = new int[MOST_CASES];
        boolean told;
        int gap;
        int year;
        int first;
        int last;
        int people;
        int cases;

        void clear() {
            told = false;
            gap = 0;
            year = 0;
            first = 0;
            last = MOST_AGE;
            people = 0;
            cases = 0;
            Arrays.fill(twins, 0);
        }

        void copy(Town other) {
            told = other.told;
            gap = other.gap;
            year = other.year;
            first = other.first;
            last = other.last;
            people = other.people;
            cases = other.cases;
            System.arraycopy(other.age, 0, age, 0, MOST_PEOPLE);
            System.arraycopy(other.wit, 0, wit, 0, MOST_PEOPLE);
            System.arraycopy(other.sweets, 0, sweets, 0, MOST_PEOPLE);
            System.arraycopy(other.twins, 0, twins, 0, MOST_PEOPLE);
            System.arraycopy(other.accused, 0, accused, 0, MOST_CASES);
            System.arraycopy(other.gravity, 0, gravity, 0, MOST_CASES);
            System.arraycopy(other.length, 0, length, 0, MOST_CASES);
            System.arraycopy(other.from, 0, from, 0, MOST_CASES);
        }

        boolean hasPerson(int person) {
            return person >= 0 && person < people;
        }

        boolean hasCase(int trial) {
            return trial >= 0 && trial < cases;
        }

        boolean isYounger(int one, int other) {
            return age[other] - age[one] >= gap;
        }

        boolean areTwins(int one, int other) {
            return (twins[one] >> other & 1) != 0;
        }

        boolean sits(int years) {
            return years >= first && years <= last;
        }

        int tillBirthday(int years) {
            return year > 0 ? year - years % year : 0;
        }
    }

    /** What ACTS change, and so what is kept to undo them. */
    private static final class Course {
        final int[] wit = new int[MOST_PEOPLE];
        final int[] ruled = new int[MOST_PEOPLE];
        final int[] judge = new int[MOST_CASES];
        final int[] toGo = new int[MOST_CASES];
        final int[] rightToBe = new int[MOST_CASES];
        final int[] ruler = new int[MOST_CASES];
        final int[] right = new int[MOST_CASES];
        final int[] rulerAge = new int[MOST_CASES];
        final int[] times = new int[MOST_CASES];
        int day;

        void start(Town town) {
            day = 0;
            System.arraycopy(town.wit, 0, wit, 0, MOST_PEOPLE);
            Arrays.fill(ruled, 0);
            Arrays.fill(judge, NONE);
            Arrays.fill(toGo, 0);
            Arrays.fill(rightToBe, NONE);
            Arrays.fill(ruler, NONE);
            Arrays.fill(right, NONE);
            Arrays.fill(rulerAge, NONE);
            Arrays.fill(times, 0);
        }

        void copy(Course other) {
            day = other.day;
            System.arraycopy(other.wit, 0, wit, 0, MOST_PEOPLE);
            System.arraycopy(other.ruled, 0, ruled, 0, MOST_PEOPLE);
            System.arraycopy(other.judge, 0, judge, 0, MOST_CASES);
            System.arraycopy(other.toGo, 0, toGo, 0, MOST_CASES);
            System.arraycopy(other.rightToBe, 0, rightToBe, 0, MOST_CASES);
            System.arraycopy(other.ruler, 0, ruler, 0, MOST_CASES);
            System.arraycopy(other.right, 0, right, 0, MOST_CASES);
            System.arraycopy(other.rulerAge, 0, rulerAge, 0, MOST_CASES);
            System.arraycopy(other.times, 0, times, 0, MOST_CASES);
        }

        int heardBy(int person) {
            for (int trial = 0; trial < MOST_CASES; trial++) {
                if (judge[trial] == person) {
                    return trial;
                }
            }
            return NONE;
        }

        /** The DAY is counted on last: what is ruled by its going by is ruled on the DAY that goes by. */
        int pass(Town town) {
            int bits = 0;
            for (int trial = 0; trial < town.cases; trial++) {
                if (judge[trial] >= 0) {
                    toGo[trial]--;
                    if (toGo[trial] <= 0) {
                        settleCase(trial, town);
                        bits |= 1 << trial;
                    }
                }
            }
            day++;
            return bits;
        }

        private void settleCase(int trial, Town town) {
            int person = judge[trial];
            ruler[trial] = person;
            right[trial] = rightToBe[trial];
            rulerAge[trial] = town.age[person] + day;
            times[trial]++;
            ruled[person]++;
            judge[trial] = NONE;
            toGo[trial] = 0;
        }

        int heardBits(int cases) {
            int bits = 0;
            for (int trial = 0; trial < cases; trial++) {
                if (judge[trial] >= 0) {
                    bits |= 1 << trial;
                }
            }
            return bits;
        }

        int ruledBits(int cases) {
            int bits = 0;
            for (int trial = 0; trial < cases; trial++) {
                if (times[trial] > 0) {
                    bits |= 1 << trial;
                }
            }
            return bits;
        }
    }

    /** All that an IMAGE holds. */
    private static final class State {
        final Town town = new Town();
        final Course course = new Course();
        final int[] factTrials = new int[MOST_FACTS];
        final int[] factWhats = new int[MOST_FACTS];
        final int[] factNumbers = new int[MOST_FACTS];
        int facts;
        int inForce = NONE;
        int x;

        void copy(State other) {
            town.copy(other.town);
            course.copy(other.course);
            facts = other.facts;
            System.arraycopy(other.factTrials, 0, factTrials, 0, MOST_FACTS);
            System.arraycopy(other.factWhats, 0, factWhats, 0, MOST_FACTS);
            System.arraycopy(other.factNumbers, 0, factNumbers, 0, MOST_FACTS);
            inForce = other.inForce;
            x = other.x;
        }

        void settle(Town told) {
            town.copy(told);
            course.start(told);
            facts = 0;
        }

        void addFact(int trial, int what, int number) {
            if (facts < MOST_FACTS) {
                factTrials[facts] = trial;
                factWhats[facts] = what;
                factNumbers[facts] = number;
                facts++;
            }
        }

        /** Of each two FACTS the even one tells the least, the odd one the most that a part can be. */
        boolean factsAllow(int trial, int age, int wit, int day, int right) {
            for (int i = 0; i < facts; i++) {
                if (factTrials[i] == trial) {
                    int part = factWhats[i] >> 1;
                    int value = part == 0 ? age : part == 1 ? wit : part == 2 ? day : right;
                    boolean atLeast = (factWhats[i] & 1) == 0;
                    if (atLeast ? value < factNumbers[i] : value > factNumbers[i]) {
                        return false;
                    }
                }
            }
            return true;
        }

        int draw() {
            x = (int) ((x * 1103515245L + 12345L) & 0x7FFFFFFFL);
            return x / 65536;
        }
    }

    /** The courses ahead of the last ACTS, in a ring, so that the eldest one makes place for the newest. */
    private static final class Past {
        final Course[] ring = new Course[MOST_UNDONE];
        int next;
        int many;

        void forget() {
            many = 0;
        }

        void keep(Course course) {
            if (ring[next] == null) {
                ring[next] = new Course();
            }
            ring[next].copy(course);
            next = next + 1 < MOST_UNDONE ? next + 1 : 0;
            many = Math.min(many + 1, MOST_UNDONE);
        }

        boolean takeBack(Course course) {
            int last = next > 0 ? next - 1 : MOST_UNDONE - 1;
            if (many <= 0 || ring[last] == null) {
                return false;
            }
            course.copy(ring[last]);
            next = last;
            many--;
            return true;
        }
    }

    /** Who CAN hear a CASE, and how RIGHT they would be. */
    private static final class Law {
        private static final int STACK = 64;
        final State state;
        final Rule[] rules;
        final long[] words = new long[VALUE_WORDS];
        final long[] stack = new long[STACK];

        Law(State state, Rule[] rules) {
            this.state = state;
            this.rules = rules;
        }

        /** No BIRTHDAY falls on the days if the first is none and the next one comes behind the last. */
        boolean canSit(int judge, int accused, int length, int day) {
            Town town = state.town;
            if (!town.isYounger(judge, accused) || town.areTwins(judge, accused)) {
                return false;
            }
            int age = town.age[judge] + day;
            int till = town.tillBirthday(age);
            return town.sits(age) && town.sits(age + length - 1) && till < town.year && till >= length;
        }

        boolean canHear(int trial, int judge, int day) {
            Town town = state.town;
            return day >= town.from[trial] && canSit(judge, town.accused[trial], town.length[trial], day);
        }

        boolean mayHear(int trial, int judge) {
            Course course = state.course;
            if (course.judge[trial] >= 0 || course.heardBy(judge) >= 0 || !canHear(trial, judge, course.day)) {
                return false;
            }
            int ruler = course.ruler[trial];
            return ruler < 0 || state.town.isYounger(judge, ruler);
        }

        void begin(int trial, int judge) {
            Course course = state.course;
            course.rightToBe[trial] = rightNow(trial, judge);
            course.judge[trial] = judge;
            course.toGo[trial] = state.town.length[trial];
        }

        void charge(int accused, int gravity, int length, int appeal) {
            words[WORD_ACCUSED] = accused;
            words[WORD_GRAVITY] = gravity;
            words[WORD_LENGTH] = length;
            words[WORD_APPEAL] = appeal;
        }

        void chargeOf(int trial, int appeal) {
            Town town = state.town;
            charge(town.accused[trial], town.gravity[trial], town.length[trial], appeal);
        }

        int rightNow(int trial, int judge) {
            chargeOf(trial, state.course.times[trial]);
            return rightOf(judge, state.course.day, state.course.ruled[judge]);
        }

        /** RIGHT in the CASE charged last. */
        int rightOf(int judge, int day, int ruled) {
            int inForce = state.inForce;
            long sum;
            if (inForce < 0 || inForce >= MOST_RULES || rules[inForce] == null) {
                long gravity = words[WORD_GRAVITY];
                sum = 50 + 5L * state.course.wit[judge] - 4 * gravity - 3L * state.town.sweets[judge];
            } else {
                nameJudge(judge, day, ruled);
                sum = rules[inForce].sum(words, stack);
            }
            return (int) Math.max(0L, Math.min(MOST_RIGHT, sum));
        }

        private void nameJudge(int judge, int day, int ruled) {
            Town town = state.town;
            int age = town.age[judge] + day;
            int accused = (int) words[WORD_ACCUSED];
            words[WORD_JUDGE] = judge;
            words[WORD_WIT] = state.course.wit[judge];
            words[WORD_AGE] = age;
            words[WORD_SWEETS] = town.sweets[judge];
            words[WORD_OLDER] = town.hasPerson(accused) ? town.age[accused] - town.age[judge] : 0;
            words[WORD_DAY] = day;
            words[WORD_RULED] = ruled;
            words[WORD_BIRTHDAY] = town.tillBirthday(age);
        }
    }

    /** A RULE as steps for a stack: below WORD a NUMBER, below STEP one of the WORDS, else what is done with them. */
    private static final class Rule {
        static final int WORD = 100000;
        static final int STEP = 200000;
        static final int PLUS = STEP;
        static final int MINUS = STEP + 1;
        static final int TIMES = STEP + 2;
        static final int BY = STEP + 3;
        static final int REST = STEP + 4;
        static final int LESS = STEP + 5;
        static final int LESS_OR_SAME = STEP + 6;
        static final int SAME = STEP + 7;
        static final int MORE_OR_SAME = STEP + 8;
        static final int MORE = STEP + 9;
        static final int BOTH = STEP + 10;
        static final int EITHER = STEP + 11;
        static final int NOT = STEP + 12;
        static final int ANSWER = STEP + 13;
        static final int ANSWER_IF = STEP + 14;

        final int[] steps;

        Rule(int[] steps) {
            this.steps = steps;
        }

        long sum(long[] words, long[] stack) {
            int top = 0;
            for (int i = 0; i < steps.length; i++) {
                int step = steps[i];
                if (step < STEP) {
                    if (top >= stack.length) {
                        return 0;
                    }
                    stack[top] = valueOf(step, words);
                    top++;
                } else if (step <= EITHER) {
                    if (top < 2) {
                        return 0;
                    }
                    top--;
                    stack[top - 1] = joined(step, stack[top - 1], stack[top]);
                } else if (step == NOT) {
                    if (top < 1) {
                        return 0;
                    }
                    stack[top - 1] = 1 - stack[top - 1];
                } else if (step == ANSWER) {
                    return top < 1 ? 0 : stack[top - 1];
                } else {
                    if (top < 2) {
                        return 0;
                    }
                    if (stack[top - 1] != 0) {
                        return stack[top - 2];
                    }
                    top -= 2;
                }
            }
            return 0;
        }

        private static long valueOf(int step, long[] words) {
            if (step < WORD) {
                return step;
            }
            int word = step - WORD;
            return word < words.length ? words[word] : 0;
        }

        private static long joined(int step, long one, long other) {
            switch (step) {
                case PLUS: return one + other;
                case MINUS: return one - other;
                case TIMES: return one * other;
                case BY: return other == 0 ? 0 : one / other;
                case REST: return other == 0 ? 0 : one % other;
                case LESS: return one < other ? 1 : 0;
                case LESS_OR_SAME: return one <= other ? 1 : 0;
                case SAME: return one == other ? 1 : 0;
                case MORE_OR_SAME: return one >= other ? 1 : 0;
                case MORE: return one > other ? 1 : 0;
                case BOTH: return one & other;
                default: return one | other;
            }
        }
    }

    /** The TAPE, read along: place is always that of the next sign, behind the blanks. */
    private static final class Reader {
        static final int END = -1;
        private static final int MOST_DIGITS = 5;
        final int[] text;
        int length;
        int place;
        int wordEnd;
        int fault;

        Reader(int[] text) {
            this.text = text;
        }

        void open(int bytes) {
            length = Math.min(bytes, text.length);
            fault = 0;
            moveTo(0);
        }

        void moveTo(int to) {
            place = to;
            while (place < length && text[place] == ' ') {
                place++;
            }
        }

        void passSign() {
            moveTo(place + 1);
        }

        void passWord() {
            moveTo(wordEnd);
        }

        int sign() {
            return place < length ? text[place] : END;
        }

        boolean failAt(int at, int kind) {
            fault = 1 + 8 * at + kind;
            return false;
        }

        boolean fail(int kind) {
            return failAt(place, kind);
        }

        boolean atDigit() {
            return sign() >= '0' && sign() <= '9';
        }

        /** Which of the WORDS comes next, NONE if none of them. */
        int word() {
            wordEnd = place;
            while (wordEnd < length && text[wordEnd] >= 'a' && text[wordEnd] <= 'z') {
                wordEnd++;
            }
            int number = 0;
            int at = place;
            boolean same = true;
            for (int i = 0; i < WORDS.length(); i++) {
                char letter = WORDS.charAt(i);
                if (letter == ' ') {
                    if (same && at == wordEnd) {
                        return number;
                    }
                    number++;
                    at = place;
                    same = true;
                } else if (same && at < wordEnd && text[at] == letter) {
                    at++;
                } else {
                    same = false;
                }
            }
            return NONE;
        }

        /** A NUMBER from low to high; NONE, with the FAULT noted, if it is none such. */
        int number(int low, int high) {
            int at = place;
            int value = 0;
            while (at < length && text[at] >= '0' && text[at] <= '9') {
                if (at - place < MOST_DIGITS) {
                    value = value * 10 + text[at] - '0';
                }
                at++;
            }
            if (at == place) {
                failAt(place, CANT_STAND);
                return NONE;
            }
            if (at - place > MOST_DIGITS || value < low || value > high) {
                failAt(place, WRONG_NUMBER);
                return NONE;
            }
            moveTo(at);
            return value;
        }
    }

    private static final class TownReader {
        private static final int MOST_CLAUSES = 40;
        final Reader reader;
        final Town town;
        int clauses;
        int pairs;
        boolean benchTold;

        TownReader(Reader reader, Town town) {
            this.reader = reader;
            this.town = town;
        }

        boolean reads() {
            town.clear();
            pairs = 0;
            benchTold = false;
            for (clauses = 0; clauses <= MOST_CLAUSES; clauses++) {
                if (!readsClause()) {
                    return false;
                }
                if (reader.sign() == Reader.END) {
                    return true;
                }
                if (reader.sign() != ';') {
                    return reader.fail(CANT_STAND);
                }
                reader.passSign();
            }
            return false;
        }

        private boolean readsClause() {
            int word = reader.word();
            if (word < WORD_TOWN) {
                return reader.fail(CANT_STAND);
            }
            if (isOneTooMany(word)) {
                return reader.fail(ONE_CLAUSE_TOO_MANY);
            }
            reader.passWord();
            switch (word) {
                case WORD_TOWN: return readsTown();
                case WORD_BENCH: return readsBench();
                case WORD_PERSON: return readsPerson();
                case WORD_TWINS: return readsTwins();
                default: return readsCase();
            }
        }

        private boolean isOneTooMany(int word) {
            if (clauses >= MOST_CLAUSES || town.told == (word == WORD_TOWN)) {
                return true;
            }
            switch (word) {
                case WORD_BENCH: return benchTold;
                case WORD_PERSON: return town.people >= MOST_PEOPLE;
                case WORD_TWINS: return pairs >= MOST_TWINS;
                case WORD_CASE: return town.cases >= MOST_CASES;
                default: return false;
            }
        }

        private boolean readsTown() {
            town.gap = reader.number(1, 99);
            if (town.gap < 0) {
                return false;
            }
            town.year = reader.number(5, 99);
            town.told = town.year >= 0;
            return town.told;
        }

        private boolean readsBench() {
            town.first = reader.number(0, MOST_AGE);
            if (town.first < 0) {
                return false;
            }
            town.last = reader.number(town.first, MOST_AGE);
            benchTold = town.last >= 0;
            return benchTold;
        }

        private boolean readsPerson() {
            int age = reader.number(0, MOST_AGE);
            int wit = age < 0 ? NONE : reader.number(0, MOST_WIT);
            int sweets = wit < 0 ? NONE : reader.number(0, 9);
            if (sweets < 0) {
                return false;
            }
            town.age[town.people] = age;
            town.wit[town.people] = wit;
            town.sweets[town.people] = sweets;
            town.people++;
            return true;
        }

        private boolean readsTwins() {
            int one = reader.number(0, town.people - 1);
            if (one < 0) {
                return false;
            }
            int place = reader.place;
            int other = reader.number(0, town.people - 1);
            if (other < 0) {
                return false;
            }
            if (other == one) {
                return reader.failAt(place, WRONG_NUMBER);
            }
            town.twins[one] |= 1 << other;
            town.twins[other] |= 1 << one;
            pairs++;
            return true;
        }

        private boolean readsCase() {
            int accused = reader.number(0, town.people - 1);
            int gravity = accused < 0 ? NONE : reader.number(1, 9);
            int length = gravity < 0 ? NONE : reader.number(1, 9);
            int from = length < 0 ? NONE : reader.number(0, 99);
            if (from < 0) {
                return false;
            }
            town.accused[town.cases] = accused;
            town.gravity[town.cases] = gravity;
            town.length[town.cases] = length;
            town.from[town.cases] = from;
            town.cases++;
            return true;
        }
    }

    private static final class RuleReader {
        private static final int MOST_CLAUSES = 12;
        private static final int MOST_VALUES = 60;
        private static final int MOST_DEEP = 10;
        final Reader reader;
        final int[] steps = new int[MOST_BYTES];
        int many;
        int values;

        RuleReader(Reader reader) {
            this.reader = reader;
        }

        Rule made() {
            return new Rule(Arrays.copyOf(steps, many));
        }

        boolean reads() {
            many = 0;
            values = 0;
            for (int clause = 0; clause <= MOST_CLAUSES; clause++) {
                if (reader.word() != WORD_RIGHT) {
                    return reader.fail(CANT_STAND);
                }
                if (clause == MOST_CLAUSES) {
                    return reader.fail(ONE_CLAUSE_TOO_MANY);
                }
                reader.passWord();
                if (!readsSum()) {
                    return false;
                }
                boolean always = reader.word() != WORD_IF;
                if (!always) {
                    reader.passWord();
                    if (!readsTest(0)) {
                        return false;
                    }
                }
                put(always ? Rule.ANSWER : Rule.ANSWER_IF);
                if (reader.sign() == Reader.END) {
                    return true;
                }
                if (reader.sign() != ';') {
                    return reader.fail(CANT_STAND);
                }
                reader.passSign();
            }
            return false;
        }

        /** Every step comes of a byte of its own at least, so that they never are more than the bytes. */
        private void put(int step) {
            if (many < MOST_BYTES) {
                steps[many] = step;
                many++;
            }
        }

        /** An or waits till the ands behind it are put. */
        private boolean readsTest(int depth) {
            boolean and = false;
            boolean or = false;
            for (int i = 0; i < MOST_BYTES; i++) {
                if (!readsFact(depth)) {
                    return false;
                }
                if (and) {
                    put(Rule.BOTH);
                }
                int word = reader.word();
                and = word == WORD_AND;
                if (!and) {
                    if (or) {
                        put(Rule.EITHER);
                    }
                    or = word == WORD_OR;
                }
                if (!and && !or) {
                    return true;
                }
                reader.passWord();
            }
            return false;
        }

        private boolean readsFact(int depth) {
            boolean not = reader.word() == WORD_NOT;
            boolean bracket = reader.sign() == '[';
            if (!not && !bracket) {
                if (!readsSum()) {
                    return false;
                }
                int step = readsComparison();
                if (step == NONE || !readsSum()) {
                    return false;
                }
                put(step);
                return true;
            }
            if (depth >= MOST_DEEP) {
                return reader.fail(TOO_DEEP);
            }
            if (not) {
                reader.passWord();
                if (!readsFact(depth + 1)) {
                    return false;
                }
                put(Rule.NOT);
                return true;
            }
            reader.passSign();
            if (!readsTest(depth + 1)) {
                return false;
            }
            if (reader.sign() != ']') {
                return reader.fail(CANT_STAND);
            }
            reader.passSign();
            return true;
        }

        private int readsComparison() {
            int step = comparison();
            if (step == NONE) {
                reader.fail(CANT_STAND);
                return NONE;
            }
            if (values >= MOST_VALUES) {
                reader.fail(ONE_VALUE_TOO_MANY);
                return NONE;
            }
            values++;
            boolean twoSigns = step == Rule.LESS_OR_SAME || step == Rule.MORE_OR_SAME;
            reader.moveTo(reader.place + (twoSigns ? 2 : 1));
            return step;
        }

        private int comparison() {
            int next = reader.place + 1;
            boolean orSame = next < reader.length && reader.text[next] == '=';
            switch (reader.sign()) {
                case '<': return orSame ? Rule.LESS_OR_SAME : Rule.LESS;
                case '=': return Rule.SAME;
                case '>': return orSame ? Rule.MORE_OR_SAME : Rule.MORE;
                default: return NONE;
            }
        }

        /** A + or - waits till the *, / and % behind it are put. */
        private boolean readsSum() {
            int times = NONE;
            int plus = NONE;
            for (int i = 0; i < MOST_BYTES; i++) {
                if (!readsValue()) {
                    return false;
                }
                if (times != NONE) {
                    put(times);
                }
                times = timesOrBy();
                if (times == NONE) {
                    if (plus != NONE) {
                        put(plus);
                    }
                    plus = plusOrMinus();
                    if (plus == NONE) {
                        return true;
                    }
                }
                reader.passSign();
            }
            return false;
        }

        private int timesOrBy() {
            switch (reader.sign()) {
                case '*': return Rule.TIMES;
                case '/': return Rule.BY;
                case '%': return Rule.REST;
                default: return NONE;
            }
        }

        private int plusOrMinus() {
            switch (reader.sign()) {
                case '+': return Rule.PLUS;
                case '-': return Rule.MINUS;
                default: return NONE;
            }
        }

        private boolean readsValue() {
            int place = reader.place;
            int step;
            if (reader.atDigit()) {
                step = reader.number(0, Rule.WORD - 1);
                if (step < 0) {
                    return false;
                }
            } else {
                int word = reader.word();
                if (word < 0 || word >= VALUE_WORDS) {
                    return reader.fail(CANT_STAND);
                }
                reader.passWord();
                step = Rule.WORD + word;
            }
            if (values >= MOST_VALUES) {
                return reader.failAt(place, ONE_VALUE_TOO_MANY);
            }
            values++;
            put(step);
            return true;
        }
    }

    /**
     * BENCHES. On which DAY a judge begins a CASE hangs only on the CASES ahead of it before the same judge. So this is
     * found once for each order in which one judge may hear some of the CASES, and rows are put together from these.
     */
    private static final class Rows {
        private static final int MOST = 4;
        private static final int ORDERS = 65;
        final Law law;
        final int[] longer = new int[ORDERS * MOST];
        final int[] shorter = new int[ORDERS];
        final int[] lastOf = new int[ORDERS];
        final int[] begins = new int[MOST_PEOPLE * ORDERS];
        final int[] rights = new int[MOST_PEOPLE * ORDERS];
        final int[] open = new int[MOST];
        final int[] row = new int[MOST];
        final int[] judges = new int[MOST];
        final int[] begun = new int[MOST];
        final int[] orderOf = new int[MOST_PEOPLE];
        final int[] bestRow = new int[MOST];
        final int[] bestJudges = new int[MOST];
        final int[] bestBegins = new int[MOST];
        int many;
        int bestRight;
        int bestLast;

        Rows(Law law) {
            this.law = law;
            int[] members = new int[ORDERS];
            int made = 1;
            for (int order = 0; order < ORDERS; order++) {
                for (int i = 0; i < MOST; i++) {
                    boolean fits = (members[order] >> i & 1) == 0 && made < ORDERS;
                    longer[order * MOST + i] = fits ? made : NONE;
                    if (fits) {
                        members[made] = members[order] | 1 << i;
                        shorter[made] = order;
                        lastOf[made] = i;
                        made++;
                    }
                }
            }
        }

        int answer(int what) {
            gatherOpen();
            if (many > MOST) {
                return MORE_THAN_FOUR;
            }
            placeAll();
            search();
            if (bestRight < 0) {
                return NO_SUCH;
            }
            if (what < 2) {
                return what == 0 ? bestRight : bestLast;
            }
            int place = (what - 2) % MOST;
            if (place >= many) {
                return NO_SUCH;
            }
            return what < 6 ? bestRow[place] : what < 10 ? bestJudges[place] : bestBegins[place];
        }

        int bestPupil(boolean askedWho) {
            gatherOpen();
            if (many > MOST) {
                return MORE_THAN_FOUR;
            }
            placeAll();
            int[] wit = law.state.course.wit;
            int who = NO_SUCH;
            int most = NO_SUCH;
            for (int pupil = 0; pupil < law.state.town.people; pupil++) {
                if (wit[pupil] < MOST_WIT) {
                    wit[pupil]++;
                    weigh(pupil);
                    search();
                    wit[pupil]--;
                    weigh(pupil);
                    if (bestRight > most && bestRight >= 0) {
                        most = bestRight;
                        who = pupil;
                    }
                }
            }
            return askedWho ? who : most;
        }

        private void gatherOpen() {
            Course course = law.state.course;
            many = 0;
            for (int trial = 0; trial < law.state.town.cases; trial++) {
                if (course.judge[trial] < 0 && course.times[trial] == 0) {
                    if (many < MOST) {
                        open[many] = trial;
                    }
                    many++;
                }
            }
        }

        private void placeAll() {
            for (int judge = 0; judge < law.state.town.people; judge++) {
                for (int order = 1; order < ORDERS; order++) {
                    begins[judge * ORDERS + order] = firstDay(judge, order);
                }
                weigh(judge);
            }
        }

        /** On which DAY the last CASE of an order begins; NONE if it, or one ahead of it, can't. */
        private int firstDay(int judge, int order) {
            int base = judge * ORDERS;
            int before = shorter[order];
            if (lastOf[order] >= many || (before > 0 && begins[base + before] < 0)) {
                return NONE;
            }
            int trial = open[lastOf[order]];
            Course course = law.state.course;
            int heard = course.heardBy(judge);
            int free = course.day + (heard < 0 ? 0 : course.toGo[heard]);
            for (int day = free; day < course.day + DAYS_LOOKED_AT; day++) {
                if (law.canHear(trial, judge, day) && isFree(judge, before, day, law.state.town.length[trial])) {
                    return day;
                }
            }
            return NONE;
        }

        private boolean isFree(int judge, int order, int day, int length) {
            int other = order;
            for (int i = 0; i < MOST && other > 0; i++) {
                int begin = begins[judge * ORDERS + other];
                int end = begin + law.state.town.length[open[lastOf[other]]];
                if (day < end && begin < day + length) {
                    return false;
                }
                other = shorter[other];
            }
            return true;
        }

        private void weigh(int judge) {
            int ruled = law.state.course.ruled[judge];
            for (int order = 1; order < ORDERS; order++) {
                int at = judge * ORDERS + order;
                if (begins[at] >= 0) {
                    law.chargeOf(open[lastOf[order]], 0);
                    rights[at] = law.rightOf(judge, begins[at], ruled);
                }
            }
        }

        private void search() {
            bestRight = NONE;
            bestLast = NONE;
            Arrays.fill(orderOf, 0);
            if (many == 0) {
                bestRight = 0;
            } else {
                tryRows(0, 0);
            }
        }

        private void tryRows(int place, int used) {
            if (place >= many || place >= MOST) {
                tryJudges(0, 0, NONE);
                return;
            }
            for (int i = 0; i < many; i++) {
                if ((used >> i & 1) == 0) {
                    row[place] = i;
                    tryRows(place + 1, used | 1 << i);
                }
            }
        }

        /**
         * Two neighbours in a row before two judges can change places and nothing else changes: so a CASE behind one
         * of a greater number is tried only before the same judge; the row the other way round came first.
         */
        private void tryJudges(int place, int right, int last) {
            if (place >= many || place >= MOST) {
                keepIfBetter(right, last);
                return;
            }
            int i = row[place];
            boolean sameJudge = place > 0 && row[place - 1] > i;
            int first = sameJudge ? judges[place - 1] : 0;
            int end = sameJudge ? first + 1 : law.state.town.people;
            for (int judge = first; judge < end; judge++) {
                int was = orderOf[judge];
                int order = longer[was * MOST + i];
                int at = judge * ORDERS + order;
                if (order > 0 && begins[at] >= 0) {
                    orderOf[judge] = order;
                    judges[place] = judge;
                    begun[place] = begins[at];
                    int lastDay = begins[at] + law.state.town.length[open[i]] - 1;
                    tryJudges(place + 1, right + rights[at], Math.max(last, lastDay));
                    orderOf[judge] = was;
                }
            }
        }

        /** Rows come in their order, so that one which is only as good never is the first. */
        private void keepIfBetter(int right, int last) {
            if (right < bestRight || (right == bestRight && last >= bestLast)) {
                return;
            }
            bestRight = right;
            bestLast = last;
            for (int place = 0; place < many && place < MOST; place++) {
                bestRow[place] = open[row[place]];
                bestJudges[place] = judges[place];
                bestBegins[place] = begun[place];
            }
        }
    }

    /** WHO and LOOK: by whom, when and how rightly a CASE may have been ruled, as far as FACTS tell. */
    private static final class Sieve {
        private static final int DAYS = 61;
        final Law law;
        final int[] byJudge = new int[MOST_PEOPLE];
        final int[] byDay = new int[DAYS];
        final int[] byRight = new int[MOST_RIGHT + 1];
        int many;
        int judge;
        int day;
        int bits;

        Sieve(Law law) {
            this.law = law;
        }

        void sift(int trial) {
            many = 0;
            judge = NO_SUCH;
            day = NO_SUCH;
            bits = 0;
            Arrays.fill(byJudge, 0);
            Arrays.fill(byDay, 0);
            Arrays.fill(byRight, 0);
            law.chargeOf(trial, 0);
            for (int who = 0; who < law.state.town.people; who++) {
                for (int when = 0; when < DAYS; when++) {
                    if (law.canHear(trial, who, when)) {
                        weigh(trial, who, when);
                    }
                }
            }
        }

        private void weigh(int trial, int who, int when) {
            State state = law.state;
            int right = law.rightOf(who, when, 0);
            if (!state.factsAllow(trial, state.town.age[who] + when, state.course.wit[who], when, right)) {
                return;
            }
            if (many == 0) {
                judge = who;
                day = when;
            }
            many++;
            bits |= 1 << who;
            byJudge[who]++;
            byDay[when]++;
            byRight[right]++;
        }

        int part(boolean askedWhich) {
            if (many == 0) {
                return NO_SUCH;
            }
            int which = 0;
            int fewest = most(byJudge);
            if (most(byDay) < fewest) {
                which = 1;
                fewest = most(byDay);
            }
            if (most(byRight) < fewest) {
                which = 2;
                fewest = most(byRight);
            }
            return askedWhich ? which : fewest;
        }

        private static int most(int[] counts) {
            int most = 0;
            for (int i = 0; i < counts.length; i++) {
                most = Math.max(most, counts[i]);
            }
            return most;
        }
    }
}
