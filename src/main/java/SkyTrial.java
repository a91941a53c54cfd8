/**
 * A house that tries those who read a sky. What each call answers is promised in shared/DOC.md; the words that
 * stand there in capitals (SIGN, SENTENCE, PAPER, LOT ..) are used here in the same sense.
 */
public final class SkyTrial {

    public static final int NONE = -1;

    private static final int NO_FIT = -2147483648;
    private static final int NOT_AGREED = -2;

    private static final int MOST_PEOPLE = 20;
    private static final int MOST_SIGNS = 6;
    private static final int MOST_SAYS = 16;
    private static final int MOST_BOOKS = 4;
    private static final int MOST_WHENS = 40;
    private static final int MOST_LAWS = 4;
    private static final int MOST_TOKENS = 400;
    private static final int MOST_NESTED = 6;
    private static final int MOST_FACTS = 60;
    private static final int MOST_TRIES = 30;

    private static final int MINUTES = 60;
    private static final int LIST_SORTS = 10;
    private static final int MOST_SURE = 5;
    /** YEARS have the most classes. */
    private static final int CLASSES = 10;

    // The kinds of TOKENS. The words stand in the order of Tokens.WORDS, so that a word's place there is its kind.
    private static final int SIGN = 0;
    private static final int IF = 1;
    private static final int SAY = 2;
    private static final int BOOK = 3;
    private static final int WHEN = 4;
    private static final int LAW = 5;
    private static final int OR = 6;
    private static final int AND = 7;
    private static final int NOT = 8;
    private static final int WAY = 9;
    private static final int MINUTE = 10;
    private static final int COAT = 13;
    private static final int TRUE = 14;
    private static final int ALL = 16;
    private static final int WRONG = 22;
    private static final int WORD_KINDS = 23;
    private static final int NAME = 23;
    private static final int INT = 24;
    private static final int SEMICOLON = 25;
    private static final int BECOMES = 26;
    private static final int PLUS = 27;
    private static final int MINUS = 28;
    private static final int TIMES = 29;
    private static final int SAME = 30;
    private static final int UNLIKE = 31;
    private static final int BELOW = 32;
    private static final int AT_MOST = 33;
    private static final int OPEN = 34;
    private static final int CLOSE = 35;
    private static final int END = 36;
    private static final int JUNK = 37;
    private static final int STOPPED = 38;

    // The VARS of a formula by their slots: a PERSON's traits come first, in the order in which a WORLD draws them.
    private static final int MINUTE_SLOT = 0;
    private static final int MONTH_SLOT = 1;
    private static final int YEARS_SLOT = 2;
    private static final int COAT_SLOT = 3;
    private static final int WAY_SLOT = 4;
    private static final int WAYS = 8;
    private static final int TRAITS = 12;
    private static final int TRUE_SLOT = 12;
    private static final int FALSE_SLOT = 13;
    private static final int SORT_SLOT = 14;
    private static final int SLOTS = 21;

    private static final int[] TRAIT_SIZES = {60, 12, 10, 4, 10, 10, 10, 10, 10, 10, 10, 10};

    private final Tape tape;
    private final TextReader reader;
    private final People people;
    private final Sky sky;
    private final Facts facts;
    private final Chance chance;
    private final Table tally;

    public SkyTrial() {
        tape = new Tape();
        reader = new TextReader();
        people = new People();
        sky = new Sky(people);
        facts = new Facts();
        chance = new Chance();
        tally = new Table();
    }

    // ---- the tape and its text

    public int feed(int a, int b, int c, int d, int e) {
        if (tape.length + 20 > Tape.MOST) {
            return NONE;
        }
        tape.addFour(a);
        tape.addFour(b);
        tape.addFour(c);
        tape.addFour(d);
        tape.addFour(e);
        return tape.length;
    }

    public int back(int n) {
        if (n < 0 || n > tape.length) {
            return NONE;
        }
        tape.length -= n;
        return tape.length;
    }

    public int read() {
        int fault = reader.parse(tape);
        tape.length = 0;
        if (fault == 0) {
            sky.told = reader.exchange(sky.told);
        }
        return fault;
    }

    public int place() {
        return reader.faultPlace();
    }

    // ---- people

    public int person(int minute, int month, int years, int coat, int ways) {
        if (people.size >= MOST_PEOPLE || ways < 0 || ways > 99999999) {
            return NONE;
        }
        if (!inRange(minute, 0, 59) || !inRange(month, 0, 11) || !inRange(years, 0, 9) || !inRange(coat, 0, 3)) {
            return NONE;
        }
        int number = people.size;
        people.size++;
        people.setTrait(number, MINUTE_SLOT, minute);
        people.setTrait(number, MONTH_SLOT, month);
        people.setTrait(number, YEARS_SLOT, years);
        people.setTrait(number, COAT_SLOT, coat);
        people.setWays(number, ways);
        return number;
    }

    public int world(int seed, int n, int strength) {
        if (!inRange(n, 0, MOST_PEOPLE) || !inRange(strength, 0, 10)) {
            return NONE;
        }
        people.size = n;
        for (int i = 0; i < n; i++) {
            people.draw(i, seed);
            sky.markBySigns(i, seed, strength);
        }
        return n;
    }

    public int of(int person, int what) {
        if (!people.has(person)) {
            return NONE;
        }
        if (inRange(what, 0, 3)) {
            return people.trait(person, MINUTE_SLOT + what);
        }
        return inRange(what, 10, 17) ? people.trait(person, WAY_SLOT + what - 10) : NONE;
    }

    // ---- what the text says of them

    public int signs(int person, int minute) {
        if (!people.has(person) || !inRange(minute, NONE, MINUTES - 1)) {
            return NONE;
        }
        return sky.upAt(person, minute == NONE ? people.trait(person, MINUTE_SLOT) : minute);
    }

    public int rounded(int person, int step) {
        if (!people.has(person) || !isStep(step)) {
            return NONE;
        }
        return sky.upAt(person, roundedMinute(person, step));
    }

    public int moved(int person, int m, boolean some) {
        if (!people.has(person) || !inRange(m, 0, 30)) {
            return NONE;
        }
        int own = people.trait(person, MINUTE_SLOT);
        int found = sky.upAt(person, own);
        for (int away = -m; away <= m; away++) {
            int up = sky.upAt(person, Math.floorMod(own + away, MINUTES));
            found = some ? found | up : found & up;
        }
        return found;
    }

    public int holds(int sentence, int person) {
        if (!isSentence(sentence) || !people.has(person)) {
            return NONE;
        }
        return bitOf(sky.trueOf(person), sentence);
    }

    public int sort(int sentence) {
        return isSentence(sentence) ? sky.told.sorts[sentence] : NONE;
    }

    public int paper(int book, int person) {
        if (!isBook(book) || !people.has(person)) {
            return NONE;
        }
        return sky.told.paperOf(book, sky.upNow(person));
    }

    public int altered(int book, int step) {
        if (!isBook(book) || !isStep(step)) {
            return NONE;
        }
        int others = 0;
        for (int p = 0; p < people.size; p++) {
            int own = sky.told.paperOf(book, sky.upNow(p));
            if (own != sky.told.paperOf(book, sky.upAt(p, roundedMinute(p, step)))) {
                others++;
            }
        }
        return others;
    }

    public int truly(int sentence, int book, int what) {
        if (!isSentence(sentence) || !isBook(book) || !inRange(what, 0, 3)) {
            return NONE;
        }
        sky.survey();
        int found = 0;
        for (int p = 0; p < people.size; p++) {
            int isTrue = bitOf(sky.truths[p], sentence);
            int isThere = bitOf(sky.told.paperOf(book, sky.ups[p]), sentence);
            if (what == 0) {
                found += isTrue;
            } else if (what == 1) {
                found += isTrue & isThere;
            } else if (what == 2) {
                found += isTrue & (1 - isThere);
            } else {
                found += isThere;
            }
        }
        return found;
    }

    public int left(int book, int person, int most) {
        if (!isBook(book) || !people.has(person) || !inRange(most, 0, MOST_PEOPLE)) {
            return NONE;
        }
        sky.survey();
        int trueOnes = sky.told.paperOf(book, sky.ups[person]) & sky.truths[person];
        int found = 0;
        for (int s = 0; s < sky.told.says; s++) {
            if (bitOf(trueOnes, s) == 1 && sky.howManyTrue(s) <= most) {
                found++;
            }
        }
        return found;
    }

    // ---- papers tried

    public int fit(int law, int book, int person, int from, int without) {
        if (!isLaw(law) || !isBook(book) || !people.has(person) || !people.has(from) || !inRange(without, 0, 127)) {
            return NO_FIT;
        }
        sky.survey();
        int bits = sky.told.withoutSorts(sky.told.paperOf(book, sky.ups[from]), without);
        return sky.fitOf(law, person, bits);
    }

    public int choose(int law, int book, int p, int q, int r) {
        if (!isLaw(law) || !isBook(book) || !people.has(p) || !people.has(q) || !people.has(r)) {
            return NONE;
        }
        if (p == q || p == r || q == r) {
            return NONE;
        }
        sky.survey();
        return sky.sixthsOf(law, book, p, q, r);
    }

    public int trial(int law, int book, int seed) {
        if (!isLaw(law) || !isBook(book) || people.size < 3) {
            return NONE;
        }
        sky.survey();
        int sum = 0;
        for (int p = 0; p < people.size; p++) {
            int q = people.firstGiven(p, seed);
            int r = people.secondGiven(p, q, seed);
            sum += sky.sixthsOf(law, book, p, q, r);
        }
        return sum;
    }

    public int given(int person, int seed, int what) {
        if (!people.has(person) || people.size < 3 || !inRange(what, 0, 1)) {
            return NONE;
        }
        int first = people.firstGiven(person, seed);
        return what == 0 ? first : people.secondGiven(person, first, seed);
    }

    public int whole(int law, int book) {
        if (!isLaw(law) || !isBook(book)) {
            return NONE;
        }
        sky.survey();
        int sum = 0;
        for (int p = 0; p < people.size; p++) {
            sky.weighAll(law, book, p);
            sum += sky.sixthsOfAllTwos(p);
        }
        return sum;
    }

    public int pleased(int law, int book, int least, boolean others) {
        if (!isLaw(law) || !isBook(book)) {
            return NONE;
        }
        sky.survey();
        int found = 0;
        for (int p = 0; p < people.size; p++) {
            for (int from = 0; from < people.size; from++) {
                if ((from != p) == others && sky.weigh(law, book, p, from) >= least) {
                    found++;
                }
            }
        }
        return found;
    }

    // ---- ways of chance

    public long tail(int n, int r, int a, int b) {
        if (!inRange(n, 0, MOST_TRIES) || !inRange(r, 0, MOST_TRIES + 1) || !inRange(b, 1, 4) || !inRange(a, 0, b)) {
            return NONE;
        }
        return chance.tailOf(n, r, a, b);
    }

    public int agree(int u, int v, int what) {
        if (!inRange(u, 2, 1000) || !inRange(v, 2, 1000) || !inRange(what, 0, 1)) {
            return NONE;
        }
        return chance.agreed(u, v, what);
    }

    public int table(int sign, int sentence, int what) {
        if (!isSign(sign) || !isSentence(sentence) || !inRange(what, 0, 3)) {
            return NONE;
        }
        sky.survey();
        sky.fillTable(tally, sign, sentence);
        return tally.part(what);
    }

    public long chances(int sign, int sentence, boolean more) {
        if (!isSign(sign) || !isSentence(sentence)) {
            return NONE;
        }
        sky.survey();
        sky.fillTable(tally, sign, sentence);
        return more ? chance.moreOf(tally) : chance.allOf(tally);
    }

    public long within(int sign, int sentence, int by, boolean more) {
        if (!isSign(sign) || !isSentence(sentence) || !inRange(by, 0, 2)) {
            return NONE;
        }
        sky.survey();
        sky.fillTable(tally, sign, sentence);
        int least = more ? tally.both : 0;
        chance.startSpread();
        for (int number = 0; number < CLASSES; number++) {
            sky.fillClassTable(tally, sign, sentence, by, number);
            chance.widenSpread(tally);
        }
        return chance.spreadFrom(least);
    }

    public int striking() {
        sky.survey();
        int best = NONE;
        long bestMore = 0;
        long bestAll = 0;
        for (int sign = 0; sign < sky.told.signs; sign++) {
            for (int sentence = 0; sentence < sky.told.says; sentence++) {
                sky.fillTable(tally, sign, sentence);
                long more = chance.moreOf(tally);
                long all = chance.allOf(tally);
                // The two shares are held against each other crosswise, so that nothing is lost in a division.
                if (best == NONE || more * bestAll < bestMore * all) {
                    best = 100 * sign + sentence;
                    bestMore = more;
                    bestAll = all;
                }
            }
        }
        return best;
    }

    public int bound(int k) {
        if (!inRange(k, 1, 10000)) {
            return NONE;
        }
        sky.survey();
        int found = 0;
        for (int sign = 0; sign < sky.told.signs; sign++) {
            for (int sentence = 0; sentence < sky.told.says; sentence++) {
                sky.fillTable(tally, sign, sentence);
                if (chance.moreOf(tally) * k <= chance.allOf(tally)) {
                    found++;
                }
            }
        }
        return found;
    }

    // ---- facts

    public int choice(int person, boolean right, int sure) {
        if (!people.has(person) || !inRange(sure, 1, MOST_SURE)) {
            return NONE;
        }
        return facts.add(right ? Facts.RIGHT : Facts.MISSED, person, sure);
    }

    public int list(int person, boolean is) {
        if (!people.has(person)) {
            return NONE;
        }
        return facts.add(is ? Facts.ON : Facts.LEFT, person, 0);
    }

    public int tried(int sign, int sort) {
        if (!isSign(sign) || !inRange(sort, 0, LIST_SORTS - 1)) {
            return NONE;
        }
        return facts.add(Facts.TRIED, sign, sort);
    }

    public int annul(int fact) {
        if (!facts.has(fact) || facts.kinds[fact] == Facts.VOID) {
            return NONE;
        }
        return facts.add(Facts.VOID, fact, 0);
    }

    public int choices(int n, int what) {
        if (!facts.canKnow(n) || !inRange(what, 0, 3)) {
            return NONE;
        }
        facts.know(n);
        if (what == 0) {
            return facts.sumOf(Facts.RIGHT, false) + facts.sumOf(Facts.MISSED, false);
        }
        if (what == 1) {
            return facts.sumOf(Facts.RIGHT, false);
        }
        return facts.sumOf(what == 2 ? Facts.RIGHT : Facts.MISSED, true);
    }

    public int sure(int n, int sure, int what) {
        if (!facts.canKnow(n) || !inRange(sure, 1, MOST_SURE) || !inRange(what, 0, 1)) {
            return NONE;
        }
        facts.know(n);
        int right = facts.howManySure(Facts.RIGHT, sure);
        return what == 1 ? right : right + facts.howManySure(Facts.MISSED, sure);
    }

    public int surer(int n, int what) {
        if (!facts.canKnow(n) || !inRange(what, 0, 2)) {
            return NONE;
        }
        facts.know(n);
        int found = 0;
        for (int right = 1; right <= MOST_SURE; right++) {
            for (int missed = 1; missed <= MOST_SURE; missed++) {
                if (1 - Integer.compare(right, missed) == what) {
                    found += facts.howManySure(Facts.RIGHT, right) * facts.howManySure(Facts.MISSED, missed);
                }
            }
        }
        return found;
    }

    public int on(int person, int n) {
        if (!people.has(person) || !facts.canKnow(n)) {
            return NONE;
        }
        facts.know(n);
        return facts.isListed(person) ? 1 : 0;
    }

    public int red(int sign, int n, int what) {
        if (!isSign(sign) || !facts.canKnow(n) || !inRange(what, 0, 4)) {
            return NONE;
        }
        sky.survey();
        fillRedTable(sign, n);
        switch (what) {
            case 0:
                return tally.trueOnes;
            case 1:
                return tally.both;
            case 2:
                return tally.up;
            case 3:
                return facts.unlikeTries();
            default:
                return redStands() ? 1 : 0;
        }
    }

    public long odds(int sign, int n, boolean more) {
        if (!isSign(sign) || !facts.canKnow(n)) {
            return NONE;
        }
        sky.survey();
        fillRedTable(sign, n);
        return more ? chance.moreOf(tally) : chance.allOf(tally);
    }

    public int turned(int sign, int from) {
        if (!isSign(sign) || !facts.has(from)) {
            return NONE;
        }
        sky.survey();
        fillRedTable(sign, from);
        boolean before = redStands();
        for (int fact = from; fact < facts.size; fact++) {
            fillRedTable(sign, fact + 1);
            boolean now = redStands();
            if (now != before) {
                return fact;
            }
        }
        return NONE;
    }

    public int count(int what) {
        switch (what) {
            case 0:
                return people.size;
            case 1:
                return sky.told.signs;
            case 2:
                return sky.told.says;
            case 3:
                return sky.told.books;
            case 4:
                return sky.told.laws;
            case 5:
                return sky.told.whens;
            case 6:
                return facts.size;
            case 7:
                return tape.length;
            default:
                return NONE;
        }
    }

    // ---- what several calls share

    private static boolean inRange(int value, int least, int most) {
        return value >= least && value <= most;
    }

    private static int bitOf(int bits, int number) {
        return (bits >>> number) & 1;
    }

    private static boolean isStep(int step) {
        return inRange(step, 2, 30);
    }

    private boolean isSign(int sign) {
        return inRange(sign, 0, sky.told.signs - 1);
    }

    private boolean isSentence(int sentence) {
        return inRange(sentence, 0, sky.told.says - 1);
    }

    private boolean isBook(int book) {
        return inRange(book, 0, sky.told.books - 1);
    }

    private boolean isLaw(int law) {
        return inRange(law, 0, sky.told.laws - 1);
    }

    private int roundedMinute(int person, int step) {
        if (!isStep(step)) {
            return 0;
        }
        int steps = (2 * people.trait(person, MINUTE_SLOT) + step) / (2 * step);
        return steps * step % MINUTES;
    }

    /** Leaves the FACTS known by n, which redStands() and the TRIES rest on. */
    private void fillRedTable(int sign, int n) {
        facts.know(n);
        tally.clear();
        for (int p = 0; p < people.size; p++) {
            tally.addOne(bitOf(sky.ups[p], sign), facts.isListed(p) ? 1 : 0);
        }
    }

    private boolean redStands() {
        long tries = Math.max(facts.unlikeTries(), 1);
        return chance.moreOf(tally) * tries * 20 <= chance.allOf(tally);
    }

    /** The bytes that wait to be read. */
    private static final class Tape {
        static final int MOST = 2000;

        final int[] bytes = new int[MOST];
        int length = 0;

        void addFour(int word) {
            for (int shift = 24; shift >= 0; shift -= 8) {
                if (length < MOST) {
                    bytes[length] = (word >>> shift) & 255;
                    length++;
                }
            }
        }

        int byteAt(int at) {
            return at >= 0 && at < length ? bytes[at] : NONE;
        }

        int afterBlanks(int from) {
            for (int at = from; at < length; at++) {
                int here = byteAt(at);
                if (here != 9 && here != 10 && here != 13 && here != 32) {
                    return at;
                }
            }
            return length;
        }

        int afterRun(int from, int lowest, int highest) {
            for (int at = from; at < length; at++) {
                if (!inRange(byteAt(at), lowest, highest)) {
                    return at;
                }
            }
            return length;
        }
    }

    /** The TOKENS of a tape, up to the first that is none, the end, or the 401st: no reading goes beyond these. */
    private static final class Tokens {
        private static final String WORDS =
            "sign if say book when law or and not way minute month years coat true false all kind two sharp known age wrong ";
        private static final int LONGEST_NAME = 8;
        private static final int LONGEST_INT = 4;

        final int[] kinds = new int[MOST_TOKENS + 1];
        final int[] starts = new int[MOST_TOKENS + 1];
        /** An INT's number, or a word's letters as one number. */
        final long[] values = new long[MOST_TOKENS + 1];
        int size = 0;
        private final long[] words = new long[WORD_KINDS];

        Tokens() {
            int word = 0;
            long letters = 0;
            for (int i = 0; i < WORDS.length(); i++) {
                char here = WORDS.charAt(i);
                if (here != ' ') {
                    letters = withLetter(letters, here);
                } else if (word < words.length) {
                    words[word] = letters;
                    word++;
                    letters = 0;
                }
            }
        }

        void scan(Tape tape) {
            size = 0;
            int at = 0;
            boolean more = true;
            for (int i = 0; i <= MOST_TOKENS && more; i++) {
                int start = tape.afterBlanks(at);
                at = scanOne(tape, start);
                more = kinds[i] != END && kinds[i] != JUNK;
            }
        }

        private int scanOne(Tape tape, int start) {
            int first = tape.byteAt(start);
            if (first == NONE) {
                put(END, start, 0);
                return start;
            }
            if (inRange(first, 'a', 'z')) {
                return scanWord(tape, start);
            }
            if (inRange(first, '0', '9')) {
                return scanInt(tape, start);
            }
            int kind = markKind(first, tape.byteAt(start + 1));
            put(kind, start, 0);
            return start + (kind == SAME || kind == UNLIKE || kind == AT_MOST ? 2 : 1);
        }

        private int scanWord(Tape tape, int start) {
            int end = tape.afterRun(start, 'a', 'z');
            long letters = 0;
            for (int at = start; at < end; at++) {
                letters = withLetter(letters, tape.byteAt(at));
            }
            put(end - start > LONGEST_NAME ? JUNK : wordKind(letters), start, letters);
            return end;
        }

        private int scanInt(Tape tape, int start) {
            int end = tape.afterRun(start, '0', '9');
            long number = 0;
            for (int at = start; at < end; at++) {
                number = number * 10 + (tape.byteAt(at) - '0');
            }
            put(end - start > LONGEST_INT ? JUNK : INT, start, number);
            return end;
        }

        private void put(int kind, int start, long value) {
            if (size < kinds.length) {
                kinds[size] = kind;
                starts[size] = start;
                values[size] = value;
                size++;
            }
        }

        private static long withLetter(long letters, int letter) {
            return letters * 27 + (letter - 'a' + 1);
        }

        private int wordKind(long letters) {
            for (int i = 0; i < words.length; i++) {
                if (words[i] == letters) {
                    return i;
                }
            }
            return NAME;
        }

        private static int markKind(int first, int second) {
            boolean withEquals = second == '=';
            switch (first) {
                case ';':
                    return SEMICOLON;
                case '=':
                    return withEquals ? SAME : BECOMES;
                case '!':
                    return withEquals ? UNLIKE : JUNK;
                case '<':
                    return withEquals ? AT_MOST : BELOW;
                case '+':
                    return PLUS;
                case '-':
                    return MINUS;
                case '*':
                    return TIMES;
                case '(':
                    return OPEN;
                case ')':
                    return CLOSE;
                default:
                    return JUNK;
            }
        }
    }

    /** What a text tells. Its formulas are kept as steps for a stack; a step's kind is the kind of its TOKEN. */
    private static final class Told {
        static final int SIGN_FORMULA = 0;
        static final int SAY_FORMULA = MOST_SIGNS;
        static final int LAW_FORMULA = MOST_SIGNS + MOST_SAYS;
        static final int FORMULAS = MOST_SIGNS + MOST_SAYS + MOST_LAWS;

        int signs = 0;
        int says = 0;
        int books = 0;
        int whens = 0;
        int laws = 0;
        final int[] sorts = new int[MOST_SAYS];
        final int[] whenBooks = new int[MOST_WHENS];
        final int[] whenSigns = new int[MOST_WHENS];
        final int[] whenSays = new int[MOST_WHENS];
        final int[] formulaStarts = new int[FORMULAS];
        final int[] formulaEnds = new int[FORMULAS];
        final int[] stepKinds = new int[MOST_TOKENS];
        final int[] stepValues = new int[MOST_TOKENS];
        int steps = 0;

        void clear() {
            signs = 0;
            says = 0;
            books = 0;
            whens = 0;
            laws = 0;
            steps = 0;
        }

        void addStep(int kind, int value) {
            if (steps < MOST_TOKENS) {
                stepKinds[steps] = kind;
                stepValues[steps] = value;
                steps++;
            }
        }

        void startFormula(int formula) {
            if (inRange(formula, 0, FORMULAS - 1)) {
                formulaStarts[formula] = steps;
            }
        }

        void endFormula(int formula) {
            if (inRange(formula, 0, FORMULAS - 1)) {
                formulaEnds[formula] = steps;
            }
        }

        void addWhen(int book, int sign, int say) {
            if (whens < MOST_WHENS) {
                whenBooks[whens] = book;
                whenSigns[whens] = sign;
                whenSays[whens] = say;
                whens++;
            }
        }

        boolean hasWhen(int book, int sign, int say) {
            for (int i = 0; i < whens; i++) {
                if (whenBooks[i] == book && whenSigns[i] == sign && whenSays[i] == say) {
                    return true;
                }
            }
            return false;
        }

        int paperOf(int book, int up) {
            int bits = 0;
            for (int i = 0; i < whens; i++) {
                if (whenBooks[i] == book && bitOf(up, whenSigns[i]) == 1) {
                    bits |= 1 << whenSays[i];
                }
            }
            return bits;
        }

        int withoutSorts(int bits, int without) {
            int kept = 0;
            for (int s = 0; s < says; s++) {
                if (bitOf(without, sorts[s]) == 0) {
                    kept |= bits & (1 << s);
                }
            }
            return kept;
        }
    }

    /**
     * Reads a text into a draft. SYNTAX and ROOM end the reading where they stand; the other FAULTS only count in a
     * text without these, so the first of them is kept aside and the reading goes on.
     */
    private static final class TextReader {
        private static final int SYNTAX = 1;
        private static final int ROOM = 2;
        private static final int TWICE = 3;
        private static final int NO_NAME = 4;
        private static final int WRONG_WAY = 5;
        private static final int MOST_NAMES = MOST_SIGNS + MOST_SAYS + MOST_BOOKS + MOST_LAWS;

        private final Tokens tokens = new Tokens();
        private Told draft = new Told();
        /** The TOKEN at hand: its number, kind (STOPPED after a FAULT, as nothing goes on with that), value, place. */
        private int at = 0;
        private int here = END;
        private long value = 0;
        private int spot = 0;
        private int fault = 0;
        private int faultAt = NONE;
        private int laterFault = 0;
        private int laterAt = NONE;
        private final long[] names = new long[MOST_NAMES];
        private final int[] nameKinds = new int[MOST_NAMES];
        private final int[] nameNumbers = new int[MOST_NAMES];
        private int named = 0;

        int parse(Tape tape) {
            tokens.scan(tape);
            start();
            for (int i = 0; i <= MOST_TOKENS && here != END && here != STOPPED; i++) {
                switch (here) {
                    case SIGN:
                        tellSign();
                        break;
                    case SAY:
                        tellSay();
                        break;
                    case BOOK:
                        tellBook();
                        break;
                    case WHEN:
                        tellWhen();
                        break;
                    case LAW:
                        tellLaw();
                        break;
                    default:
                        fail(SYNTAX);
                        break;
                }
            }
            if (fault != 0) {
                faultAt = spot;
            } else {
                fault = laterFault;
                faultAt = laterAt;
            }
            return fault;
        }

        int faultPlace() {
            return faultAt;
        }

        /** Hands out what was read and takes the text that it replaces as the room for the next draft. */
        Told exchange(Told old) {
            Told fresh = draft;
            draft = old;
            return fresh;
        }

        private void start() {
            draft.clear();
            at = 0;
            here = tokens.kinds[0];
            value = tokens.values[0];
            spot = tokens.starts[0];
            fault = 0;
            faultAt = NONE;
            laterFault = 0;
            laterAt = NONE;
            named = 0;
        }

        private void tellSign() {
            if (!open(draft.signs < MOST_SIGNS)) {
                return;
            }
            int formula = Told.SIGN_FORMULA + draft.signs;
            tellName(SIGN, draft.signs);
            need(IF);
            draft.startFormula(formula);
            condition();
            draft.endFormula(formula);
            need(SEMICOLON);
            draft.signs++;
        }

        private void tellSay() {
            if (!open(draft.says < MOST_SAYS)) {
                return;
            }
            int formula = Told.SAY_FORMULA + draft.says;
            tellName(SAY, draft.says);
            if (inRange(here, ALL, WRONG)) {
                draft.sorts[draft.says] = here - ALL;
                take();
            } else {
                fail(SYNTAX);
            }
            need(IF);
            draft.startFormula(formula);
            condition();
            draft.endFormula(formula);
            need(SEMICOLON);
            draft.says++;
        }

        private void tellBook() {
            if (!open(draft.books < MOST_BOOKS)) {
                return;
            }
            tellName(BOOK, draft.books);
            need(SEMICOLON);
            draft.books++;
        }

        private void tellWhen() {
            if (draft.books == 0) {
                blame(NO_NAME);
            }
            if (!open(draft.whens < MOST_WHENS)) {
                return;
            }
            int book = draft.books - 1;
            int sign = nameAhead(SIGN);
            need(NAME);
            need(SAY);
            int say = nameAhead(SAY);
            if (sign != NONE && say != NONE && draft.hasWhen(book, sign, say)) {
                blame(TWICE);
            }
            need(NAME);
            need(SEMICOLON);
            draft.addWhen(book, sign, say);
        }

        private void tellLaw() {
            if (!open(draft.laws < MOST_LAWS)) {
                return;
            }
            int formula = Told.LAW_FORMULA + draft.laws;
            tellName(LAW, draft.laws);
            need(BECOMES);
            draft.startFormula(formula);
            sum(0);
            draft.endFormula(formula);
            need(SEMICOLON);
            draft.laws++;
        }

        private void tellName(int nameKind, int number) {
            if (here != NAME) {
                fail(SYNTAX);
                return;
            }
            if (findName(value) != NONE) {
                blame(TWICE);
            } else if (named < MOST_NAMES) {
                names[named] = value;
                nameKinds[named] = nameKind;
                nameNumbers[named] = number;
                named++;
            }
            take();
        }

        private int findName(long letters) {
            for (int i = 0; i < named; i++) {
                if (names[i] == letters) {
                    return i;
                }
            }
            return NONE;
        }

        private int nameAhead(int nameKind) {
            if (here != NAME) {
                return NONE;
            }
            int index = findName(value);
            if (index == NONE || nameKinds[index] != nameKind) {
                blame(NO_NAME);
                return NONE;
            }
            return nameNumbers[index];
        }

        private void condition() {
            boolean afterAnd = false;
            boolean afterOr = false;
            boolean more = true;
            for (int i = 0; i <= MOST_TOKENS && more; i++) {
                literal();
                if (afterAnd) {
                    draft.addStep(AND, 0);
                }
                afterAnd = here == AND;
                // What 'and' joins belongs together, so an 'or' ahead of it waits for the last of these.
                if (!afterAnd) {
                    if (afterOr) {
                        draft.addStep(OR, 0);
                    }
                    afterOr = here == OR;
                }
                more = afterAnd || afterOr;
                if (more) {
                    take();
                }
            }
        }

        private void literal() {
            boolean not = false;
            for (int i = 0; i <= MOST_TOKENS && here == NOT; i++) {
                not = !not;
                take();
            }
            sum(0);
            int compared = here;
            if (!inRange(compared, SAME, AT_MOST)) {
                fail(SYNTAX);
                return;
            }
            take();
            sum(0);
            draft.addStep(compared, 0);
            if (not) {
                draft.addStep(NOT, 0);
            }
        }

        private void sum(int depth) {
            boolean afterTimes = false;
            int waiting = NONE;
            boolean more = true;
            for (int i = 0; i <= MOST_TOKENS && more; i++) {
                unit(depth);
                if (afterTimes) {
                    draft.addStep(TIMES, 0);
                }
                afterTimes = here == TIMES;
                // As in condition(): a '+' or '-' waits for the whole product behind it.
                if (!afterTimes) {
                    if (waiting != NONE) {
                        draft.addStep(waiting, 0);
                    }
                    waiting = here == PLUS || here == MINUS ? here : NONE;
                }
                more = afterTimes || waiting != NONE;
                if (more) {
                    take();
                }
            }
        }

        private void unit(int depth) {
            int last = here;
            if (here == OPEN) {
                if (depth >= MOST_NESTED) {
                    fail(ROOM);
                    return;
                }
                take();
                sum(depth + 1);
                last = CLOSE;
            } else if (here == WAY) {
                take();
                if (here == INT && value >= WAYS) {
                    blame(WRONG_WAY);
                }
                draft.addStep(WAY, WAY_SLOT + (int) value);
                last = INT;
            } else if (here == INT) {
                draft.addStep(INT, (int) value);
            } else if (inRange(here, MINUTE, COAT)) {
                draft.addStep(WAY, MINUTE_SLOT + here - MINUTE);
            } else if (inRange(here, TRUE, WRONG)) {
                draft.addStep(WAY, TRUE_SLOT + here - TRUE);
            } else {
                last = NONE;
            }
            if (here == last) {
                take();
            } else {
                fail(SYNTAX);
            }
        }

        /** Takes the first TOKEN of a TELL, or fails where no more of its sort may be told. */
        private boolean open(boolean isRoom) {
            if (isRoom) {
                take();
            } else {
                fail(ROOM);
            }
            return fault == 0;
        }

        private void need(int wanted) {
            if (here == wanted) {
                take();
            } else {
                fail(SYNTAX);
            }
        }

        /** Only a TOKEN with which the text goes on is taken: so ROOM never hides SYNTAX of the same place. */
        private void take() {
            if (at < MOST_TOKENS) {
                at++;
                here = tokens.kinds[at];
                value = tokens.values[at];
                spot = tokens.starts[at];
            } else {
                fault = ROOM;
                here = STOPPED;
            }
        }

        private void fail(int number) {
            if (fault == 0) {
                fault = number;
            }
            here = STOPPED;
        }

        private void blame(int number) {
            if (laterFault == 0) {
                laterFault = number;
                laterAt = spot;
            }
        }
    }

    /** Works out formulas with the VARS that were set before. */
    private static final class Reckoner {
        // Six brackets within one another leave fewer than twenty numbers open at once.
        private static final int STACK = 40;

        final int[] slots = new int[SLOTS];
        private final int[] stack = new int[STACK];
        private int top = 0;

        int valueOf(Told told, int formula) {
            top = 0;
            if (inRange(formula, 0, Told.FORMULAS - 1)) {
                int end = Math.min(told.formulaEnds[formula], told.steps);
                for (int i = Math.max(told.formulaStarts[formula], 0); i < end; i++) {
                    step(told.stepKinds[i], told.stepValues[i]);
                }
            }
            return pop();
        }

        private void step(int kind, int value) {
            if (kind == INT) {
                push(value);
            } else if (kind == WAY) {
                push(inRange(value, 0, SLOTS - 1) ? slots[value] : 0);
            } else if (kind == NOT) {
                push(1 - pop());
            } else {
                int second = pop();
                int first = pop();
                push(joined(kind, first, second));
            }
        }

        private static int joined(int kind, int first, int second) {
            switch (kind) {
                case PLUS:
                    return first + second;
                case MINUS:
                    return first - second;
                case TIMES:
                    return first * second;
                case SAME:
                    return first == second ? 1 : 0;
                case UNLIKE:
                    return first != second ? 1 : 0;
                case BELOW:
                    return first < second ? 1 : 0;
                case AT_MOST:
                    return first <= second ? 1 : 0;
                case AND:
                    return first & second;
                case OR:
                    return first | second;
                default:
                    return 0;
            }
        }

        private void push(int value) {
            if (top < STACK) {
                stack[top] = value;
                top++;
            }
        }

        private int pop() {
            if (top <= 0) {
                return 0;
            }
            top--;
            return stack[top];
        }
    }

    /** The PEOPLE and the LOTS that fall on them. */
    private static final class People {
        final int[] traits = new int[MOST_PEOPLE * TRAITS];
        int size = 0;

        boolean has(int p) {
            return p >= 0 && p < size;
        }

        int trait(int p, int slot) {
            return inRange(p, 0, MOST_PEOPLE - 1) && inRange(slot, 0, TRAITS - 1) ? traits[p * TRAITS + slot] : 0;
        }

        void setTrait(int p, int slot, int value) {
            if (inRange(p, 0, MOST_PEOPLE - 1) && inRange(slot, 0, TRAITS - 1)) {
                traits[p * TRAITS + slot] = value;
            }
        }

        void setWays(int p, int digits) {
            int rest = digits;
            for (int way = 0; way < WAYS; way++) {
                setTrait(p, WAY_SLOT + way, rest % 10);
                rest /= 10;
            }
        }

        void draw(int p, int seed) {
            for (int slot = 0; slot < TRAITS; slot++) {
                setTrait(p, slot, lot(TRAIT_SIZES[slot], seed, 20 * p + slot));
            }
        }

        int classOf(int p, int by) {
            if (by == 0) {
                return trait(p, MONTH_SLOT) / 3;
            }
            return trait(p, by == 1 ? YEARS_SLOT : COAT_SLOT);
        }

        int firstGiven(int p, int seed) {
            return nthOther(lot(size - 1, seed, 2 * p), p, p);
        }

        int secondGiven(int p, int first, int seed) {
            return nthOther(lot(size - 2, seed, 2 * p + 1), p, first);
        }

        private int nthOther(int nth, int p, int first) {
            int ahead = 0;
            for (int other = 0; other < size; other++) {
                if (other != p && other != first) {
                    if (ahead == nth) {
                        return other;
                    }
                    ahead++;
                }
            }
            return 0;
        }

        static int lot(int n, int seed, int which) {
            if (n < 1) {
                return 0;
            }
            int mixed = mix(mix(seed, 7), which);
            return (mixed >>> 1) % n;
        }

        private static int mix(int h, int with) {
            int product = (h ^ with) * 1103515245 + 12345;
            return product ^ (product >>> 15);
        }
    }

    /** What the text in force says of the PEOPLE. */
    private static final class Sky {
        Told told = new Told();
        private final People people;
        private final Reckoner reckoner = new Reckoner();
        /** By PERSON: SIGNS that are UP, SENTENCES that are TRUE, as of the last survey(). */
        final int[] ups = new int[MOST_PEOPLE];
        final int[] truths = new int[MOST_PEOPLE];
        /** By PERSON whose PAPER it is: how it FITS the one that was weighed last. */
        private final int[] fits = new int[MOST_PEOPLE];

        Sky(People people) {
            this.people = people;
        }

        void survey() {
            for (int p = 0; p < people.size; p++) {
                setPerson(p);
                ups[p] = bitsOf(Told.SIGN_FORMULA, told.signs);
                truths[p] = bitsOf(Told.SAY_FORMULA, told.says);
            }
        }

        int upNow(int p) {
            return upAt(p, people.trait(p, MINUTE_SLOT));
        }

        int upAt(int p, int minute) {
            setPerson(p);
            reckoner.slots[MINUTE_SLOT] = minute;
            return bitsOf(Told.SIGN_FORMULA, told.signs);
        }

        int trueOf(int p) {
            setPerson(p);
            return bitsOf(Told.SAY_FORMULA, told.says);
        }

        void markBySigns(int p, int seed, int strength) {
            for (int k = 0; k < told.signs; k++) {
                // A way that an earlier SIGN has raised may put a later one up or down, so each looks anew.
                setPerson(p);
                boolean isUp = reckoner.valueOf(told, Told.SIGN_FORMULA + k) == 1;
                if (isUp && People.lot(10, seed, 20 * p + 12 + k) < strength) {
                    people.setTrait(p, WAY_SLOT + k, 9);
                }
            }
        }

        int howManyTrue(int sentence) {
            int found = 0;
            for (int p = 0; p < people.size; p++) {
                found += bitOf(truths[p], sentence);
            }
            return found;
        }

        int fitOf(int law, int p, int bits) {
            setPerson(p);
            for (int s = 0; s < told.says; s++) {
                if (bitOf(bits, s) == 1) {
                    if (bitOf(truths[p], s) == 1) {
                        reckoner.slots[TRUE_SLOT]++;
                        reckoner.slots[SORT_SLOT + told.sorts[s]]++;
                    } else {
                        reckoner.slots[FALSE_SLOT]++;
                    }
                }
            }
            return reckoner.valueOf(told, Told.LAW_FORMULA + law);
        }

        int weigh(int law, int book, int p, int from) {
            fits[from] = fitOf(law, p, told.paperOf(book, ups[from]));
            return fits[from];
        }

        void weighAll(int law, int book, int p) {
            for (int from = 0; from < people.size; from++) {
                weigh(law, book, p, from);
            }
        }

        int sixthsOf(int law, int book, int p, int q, int r) {
            weigh(law, book, p, p);
            weigh(law, book, p, q);
            weigh(law, book, p, r);
            return sixths(p, q, r);
        }

        int sixthsOfAllTwos(int p) {
            int sum = 0;
            for (int q = 0; q < people.size; q++) {
                for (int r = q + 1; r < people.size; r++) {
                    if (q != p && r != p) {
                        sum += sixths(p, q, r);
                    }
                }
            }
            return sum;
        }

        void fillTable(Table table, int sign, int sentence) {
            table.clear();
            for (int p = 0; p < people.size; p++) {
                table.addOne(bitOf(ups[p], sign), bitOf(truths[p], sentence));
            }
        }

        void fillClassTable(Table table, int sign, int sentence, int by, int number) {
            table.clear();
            for (int p = 0; p < people.size; p++) {
                if (people.classOf(p, by) == number) {
                    table.addOne(bitOf(ups[p], sign), bitOf(truths[p], sentence));
                }
            }
        }

        private int sixths(int p, int q, int r) {
            int own = fits[p];
            if (fits[q] > own || fits[r] > own) {
                return 0;
            }
            if (fits[q] == own && fits[r] == own) {
                return 2;
            }
            return fits[q] == own || fits[r] == own ? 3 : 6;
        }

        private void setPerson(int p) {
            for (int slot = 0; slot < SLOTS; slot++) {
                reckoner.slots[slot] = slot < TRAITS ? people.trait(p, slot) : 0;
            }
        }

        private int bitsOf(int firstFormula, int howMany) {
            int bits = 0;
            for (int i = 0; i < howMany; i++) {
                if (reckoner.valueOf(told, firstFormula + i) == 1) {
                    bits |= 1 << i;
                }
            }
            return bits;
        }
    }

    /** How many PEOPLE there are, for how many a SIGN is UP, a SENTENCE (or being listed) is TRUE, and both. */
    private static final class Table {
        int all = 0;
        int up = 0;
        int trueOnes = 0;
        int both = 0;

        void clear() {
            all = 0;
            up = 0;
            trueOnes = 0;
            both = 0;
        }

        void addOne(int isUp, int isTrue) {
            all++;
            up += isUp;
            trueOnes += isTrue;
            both += isUp & isTrue;
        }

        int part(int what) {
            switch (what) {
                case 0:
                    return all;
                case 1:
                    return up;
                case 2:
                    return trueOnes;
                default:
                    return both;
            }
        }
    }

    /** WAYS OF CHANCE as whole numbers. */
    private static final class Chance {
        private static final int WIDTH = MOST_PEOPLE + 1;

        /** Row n, column k: how many ways there are to take k of n. */
        private final long[] takings = new long[WIDTH * WIDTH];
        /** How many rows of tries have so many right. */
        private final long[] thirds = new long[MOST_TRIES + 1];
        private final long[] halves = new long[MOST_TRIES + 1];
        /** In how many ways so many that it is TRUE of are taken, over the classes so far, and with one more. */
        private final long[] spread = new long[WIDTH];
        private final long[] wider = new long[WIDTH];

        Chance() {
            for (int n = 0; n < WIDTH; n++) {
                takings[n * WIDTH] = 1;
                for (int k = 1; k <= n; k++) {
                    takings[n * WIDTH + k] = takings[(n - 1) * WIDTH + k - 1] + takings[(n - 1) * WIDTH + k];
                }
            }
        }

        long tailOf(int n, int r, int a, int b) {
            startRow(halves);
            for (int tries = 1; tries <= n; tries++) {
                addTry(halves, tries, a, b - a);
            }
            return sumOf(halves, r, n);
        }

        int agreed(int u, int v, int what) {
            startRow(thirds);
            startRow(halves);
            long allThirds = 1;
            long allHalves = 1;
            for (int n = 1; n <= MOST_TRIES; n++) {
                addTry(thirds, n, 1, 2);
                addTry(halves, n, 1, 1);
                allThirds *= 3;
                allHalves *= 2;
                for (int r = 0; r <= n; r++) {
                    if (u * sumOf(thirds, r, n) <= allThirds && v * sumOf(halves, 0, r - 1) <= allHalves) {
                        return what == 0 ? n : r;
                    }
                }
            }
            return NOT_AGREED;
        }

        long allOf(Table table) {
            return taking(table.all, table.up);
        }

        long moreOf(Table table) {
            long sum = 0;
            for (int taken = table.both; taken <= table.up; taken++) {
                sum += takingJust(table, taken);
            }
            return sum;
        }

        void startSpread() {
            startRow(spread);
        }

        void widenSpread(Table one) {
            for (int taken = 0; taken < WIDTH; taken++) {
                wider[taken] = 0;
                for (int here = 0; here <= one.up && here <= taken; here++) {
                    wider[taken] += spread[taken - here] * takingJust(one, here);
                }
            }
            System.arraycopy(wider, 0, spread, 0, WIDTH);
        }

        long spreadFrom(int least) {
            return sumOf(spread, least, WIDTH - 1);
        }

        /** In how many ways just so many that it is TRUE of are taken, as many being taken as are UP. */
        private long takingJust(Table table, int taken) {
            return taking(table.trueOnes, taken) * taking(table.all - table.trueOnes, table.up - taken);
        }

        private long taking(int n, int k) {
            return inRange(n, 0, WIDTH - 1) && inRange(k, 0, n) ? takings[n * WIDTH + k] : 0;
        }

        private static void startRow(long[] row) {
            for (int i = 0; i < row.length; i++) {
                row[i] = i == 0 ? 1 : 0;
            }
        }

        private static void addTry(long[] row, int most, int right, int others) {
            for (int i = Math.min(most, row.length - 1); i > 0; i--) {
                row[i] = row[i] * others + row[i - 1] * right;
            }
            row[0] *= others;
        }

        private static long sumOf(long[] row, int from, int to) {
            long sum = 0;
            for (int i = Math.max(from, 0); i <= to && i < row.length; i++) {
                sum += row[i];
            }
            return sum;
        }
    }

    /** The FACTS in their order; what is asked of them is of those that know(n) made KNOWN. */
    private static final class Facts {
        static final int RIGHT = 0;
        static final int MISSED = 1;
        static final int ON = 2;
        static final int LEFT = 3;
        static final int TRIED = 4;
        static final int VOID = 5;

        final int[] kinds = new int[MOST_FACTS];
        /** The PERSON, the SIGN, or the FACT that a VOID names. */
        private final int[] subjects = new int[MOST_FACTS];
        /** How sure, or the SORT of LIST. */
        private final int[] values = new int[MOST_FACTS];
        private final boolean[] known = new boolean[MOST_FACTS];
        int size = 0;

        int add(int kind, int subject, int value) {
            if (size >= MOST_FACTS) {
                return NONE;
            }
            kinds[size] = kind;
            subjects[size] = subject;
            values[size] = value;
            size++;
            return size - 1;
        }

        boolean has(int fact) {
            return fact >= 0 && fact < size;
        }

        boolean canKnow(int n) {
            return n >= 0 && n <= size;
        }

        void know(int n) {
            for (int i = 0; i < size; i++) {
                known[i] = i < n;
            }
            for (int i = 0; i < n && i < size; i++) {
                if (kinds[i] == VOID && has(subjects[i])) {
                    known[subjects[i]] = false;
                }
            }
        }

        int sumOf(int kind, boolean ofSureness) {
            int sum = 0;
            for (int i = 0; i < size; i++) {
                if (known[i] && kinds[i] == kind) {
                    sum += ofSureness ? values[i] : 1;
                }
            }
            return sum;
        }

        int howManySure(int kind, int sureness) {
            int found = 0;
            for (int i = 0; i < size; i++) {
                if (known[i] && kinds[i] == kind && values[i] == sureness) {
                    found++;
                }
            }
            return found;
        }

        boolean isListed(int p) {
            boolean listed = false;
            for (int i = 0; i < size; i++) {
                if (known[i] && subjects[i] == p && (kinds[i] == ON || kinds[i] == LEFT)) {
                    listed = kinds[i] == ON;
                }
            }
            return listed;
        }

        int unlikeTries() {
            long seen = 0;
            for (int i = 0; i < size; i++) {
                if (known[i] && kinds[i] == TRIED) {
                    seen |= 1L << (subjects[i] * LIST_SORTS + values[i]);
                }
            }
            return Long.bitCount(seen);
        }
    }
}
