import java.util.NoSuchElementException;

/** Laws of six clauses of which a die thrown at dawn tells the one that holds. */
public final class DiceLaw {
    public static final int NONE = -1;
    public static final int HIDDEN = -1000000000;

    private static final int LAWS = 5;
    private static final int FACES = 6;
    private static final int DEEDS = 6;
    private static final int PERSONS = 6;
    private static final int RULES = 4;
    private static final int DAWNS = 40;
    private static final int ACTS = 60;
    private static final int BYTES = 120;
    private static final int THROWS_AGAIN = 3;
    private static final int TOGETHER = 12;
    /** FACES to the power of LAWS: so many ways there are for all DICE to lie. */
    private static final int ALL_FACES = 7776;

    private static final int MAY = 10;
    private static final int MUST_NOT = 20;
    private static final int MUST = 30;
    private static final int THROW_AGAIN = 40;
    private static final int COPY = 50;
    private static final int YESTERDAY = 60;

    private static final int ASK_LAWFUL = 0;
    private static final int ASK_MUST = 1;
    private static final int ASK_FORBIDDEN = 2;
    private static final int ASK_BOTH = 3;
    private static final int ASK_FREE = 4;
    private static final int ASK_HOLDS = 5;
    private static final int ASK_FACES = 6;
    private static final int ASK_GIVEN = 7;

    private final Text tape = new Text();
    private final Text[] rules = new Text[RULES];
    private int ruleCount;
    private final LawReader lawReader = new LawReader();
    private final RuleReader ruleReader = new RuleReader();
    private final int[] letters = new int[6];
    private final Book book = new Book();
    private final Diary diary = new Diary();
    private final Book keptBook = new Book();
    private final Diary keptDiary = new Diary();
    private boolean kept;
    private final int[] asked = {2, 2, 2, 2, 2, 2};
    private final int[] wanted = new int[FACES];
    private final Dice dice = new Dice();
    private final Chances chances = new Chances();
    private final Tomorrow tomorrow = chances.tomorrow;

    public DiceLaw() {
        for (int i = 0; i < rules.length; i++) {
            rules[i] = new Text();
        }
    }

    // ---- the tape and its texts

    public int feed(int a, int b, int c, int d, int e) {
        int more = bytesIn(a) + bytesIn(b) + bytesIn(c) + bytesIn(d) + bytesIn(e);
        if (tape.length + more > BYTES) {
            return NONE;
        }
        tape.append(a);
        tape.append(b);
        tape.append(c);
        tape.append(d);
        tape.append(e);
        return tape.length;
    }

    public boolean end(int n) {
        if (n < 0 || n > tape.length) {
            return false;
        }
        tape.length = n;
        return true;
    }

    public int fault(int sort) {
        if (sort == 0) {
            return lawReader.read(tape);
        }
        return sort == 1 ? ruleReader.read(tape, letters) : -2;
    }

    public int text(int sort) {
        int number = NONE;
        if (sort == 0) {
            number = takeLaw();
        } else if (sort == 1) {
            number = takeRule();
        }
        if (number != NONE) {
            tape.length = 0;
        }
        return number;
    }

    private int takeLaw() {
        if (lawReader.read(tape) != NONE || book.laws >= LAWS || diary.days > 0) {
            return NONE;
        }
        book.add(lawReader.clauses);
        return book.laws - 1;
    }

    private int takeRule() {
        Text rule = ruleCount >= 0 && ruleCount < rules.length ? rules[ruleCount] : null;
        if (rule == null || ruleReader.read(tape, letters) != NONE) {
            return NONE;
        }
        rule.take(tape);
        ruleCount++;
        return ruleCount - 1;
    }

    // ---- laws and their dice

    public int clause(int law, int face) throws NoSuchElementException {
        if (!book.has(law, face)) {
            throw new NoSuchElementException("no such LAW or FACE");
        }
        return book.clauseOf(law, face);
    }

    public boolean weigh(int law, int a, int b, int c, int d, int e, int f) {
        if (!book.has(law, 0) || !isWeighed(a, b, c, d, e, f)) {
            return false;
        }
        copy(wanted, 0, book.weights, law * FACES, FACES);
        return true;
    }

    private boolean isWeighed(int a, int b, int c, int d, int e, int f) {
        put(wanted, 0, a);
        put(wanted, 1, b);
        put(wanted, 2, c);
        put(wanted, 3, d);
        put(wanted, 4, e);
        put(wanted, 5, f);
        int sum = 0;
        for (int weight : wanted) {
            if (weight < 0 || weight > TOGETHER) {
                return false;
            }
            sum += weight;
        }
        return sum == TOGETHER;
    }

    public int weight(int law, int face) {
        return book.has(law, face) ? book.weightOf(law, face) : NONE;
    }

    public boolean amend(int law, int face, int clause) {
        if (!book.has(law, face) || !isClause(clause)) {
            return false;
        }
        put(book.clauses, law * FACES + face, clause);
        return true;
    }

    // ---- dawns

    public void seed(long v) {
        diary.x = v;
    }

    public int dawn() {
        if (book.laws == 0 || diary.days >= DAWNS) {
            return NONE;
        }
        long before = diary.x;
        diary.x = dice.throwAll(book, before);
        return diary.add(book, dice.lies, dice.thrown, before);
    }

    public int told(int faces) {
        if (book.laws == 0 || diary.days >= DAWNS || !dice.lay(book.laws, faces)) {
            return NONE;
        }
        return diary.add(book, dice.lies, 0, diary.x);
    }

    public int undo() {
        return diary.days == 0 ? NONE : diary.drop();
    }

    public int day(int day, int what) {
        if (!diary.has(day) || what < 0 || what > 1) {
            return NONE;
        }
        return what == 0 ? diary.digits(day) : at(diary.thrown, day);
    }

    public int held(int law, int day) {
        return book.has(law, 0) && diary.has(day) ? diary.holdingOf(law, day) : NONE;
    }

    public int deed(int deed, int day, int what) {
        if (!isDeed(deed) || !diary.has(day)) {
            return NONE;
        }
        switch (what) {
            case 0:
                return bit(diary.lawfulOn(day, deed));
            case 1:
                return bit(diary.boundOn(day, deed));
            case 2:
                return diary.by(day, MAY + deed);
            case 3:
                return diary.by(day, MUST_NOT + deed);
            case 4:
                return diary.by(day, MUST + deed);
            default:
                return NONE;
        }
    }

    // ---- odds of tomorrow

    public long odds(int deed, int sort, int part) {
        if (book.laws == 0 || !isDeed(deed) || sort < ASK_LAWFUL || sort > ASK_FORBIDDEN || !isPart(part)) {
            return NONE;
        }
        return fraction(chance(sort, deed, deed), tomorrow.total(), part);
    }

    public long both(int one, int other, int part) {
        if (book.laws == 0 || !areTwoDeeds(one, other) || !isPart(part)) {
            return NONE;
        }
        return fraction(chance(ASK_BOTH, one, other), tomorrow.total(), part);
    }

    public long free(int part) {
        if (book.laws == 0 || !isPart(part)) {
            return NONE;
        }
        return fraction(chance(ASK_FREE, 0, 0), tomorrow.total(), part);
    }

    public long holds(int law, int clause, int part) {
        if (!book.has(law, 0) || !isClause(clause) || clause >= THROW_AGAIN || !isPart(part)) {
            return NONE;
        }
        return fraction(chance(ASK_HOLDS, law, clause), tomorrow.total(), part);
    }

    public long again(int many, int part) {
        if (book.laws == 0 || many < 0 || many > THROWS_AGAIN || !isPart(part)) {
            return NONE;
        }
        throwTomorrow();
        return fraction(at(tomorrow.byThrown, many), tomorrow.total(), part);
    }

    public int sure(int what) {
        if (book.laws == 0 || what < 0 || what > 1) {
            return NONE;
        }
        throwTomorrow();
        long due = what == 0 ? tomorrow.total() : 0;
        int bits = 0;
        for (int deed = 0; deed < DEEDS; deed++) {
            if (chances.ask(ASK_LAWFUL, deed, deed) == due) {
                bits |= 1 << deed;
            }
        }
        return bits;
    }

    public int waits(int deed, int days) {
        if (book.laws == 0 || !isDeed(deed) || days < 1 || days > 60) {
            return NONE;
        }
        return (int) worthOfWait(chance(ASK_LAWFUL, deed, deed), days, 1, 0);
    }

    public long value(int deed, int days, int gain, int cost) {
        if (gain < 0 || gain > 999 || cost < 0 || cost > 99) {
            return HIDDEN;
        }
        if (book.laws == 0 || !isDeed(deed) || days < 1 || days > 60) {
            return HIDDEN;
        }
        long ways = chance(ASK_LAWFUL, deed, deed);
        long left = 1000000000L - worthOfWait(ways, days, 1, 0);
        return (worthOfWait(ways, days, gain, cost) - left * cost * days) / 1000000L;
    }

    private long worthOfWait(long ways, int days, int gain, int cost) {
        long total = tomorrow.total();
        long left = 1000000000L;
        long sum = 0;
        for (int ahead = 0; ahead < days; ahead++) {
            long now = total == 0 ? 0 : left * ways / total;
            sum += now * (gain - cost * ahead);
            left -= now;
        }
        return sum;
    }

    public long given(int law, int face, int deed, int part) {
        if (!book.has(law, face) || !isDeed(deed) || !isPart(part)) {
            return NONE;
        }
        chance(ASK_GIVEN, deed, deed);
        return fraction(chances.metBy(law, face), chances.allBy(law, face), part);
    }

    public int harm(int deed) {
        if (book.laws == 0 || !isDeed(deed)) {
            return NONE;
        }
        chance(ASK_GIVEN, deed, deed);
        int worst = NONE;
        long above = 0;
        long below = 0;
        for (int cell = 0; cell < book.laws * FACES; cell++) {
            long met = chances.metBy(cell / FACES, cell % FACES);
            long all = chances.allBy(cell / FACES, cell % FACES);
            if (all > 0 && (worst == NONE || met * below < above * all)) {
                worst = cell;
                above = met;
                below = all;
            }
        }
        return worst;
    }

    public long likeliest(int what) {
        if (book.laws == 0 || what < 0 || what > 1) {
            return NONE;
        }
        chance(ASK_FACES, 0, 0);
        return what == 0 ? chances.mostFaces : chances.most;
    }

    public int apart(int one, int other) {
        if (book.laws == 0 || !areTwoDeeds(one, other)) {
            return NONE;
        }
        long both = chance(ASK_BOTH, one, other);
        long first = chances.ask(ASK_LAWFUL, one, one);
        long second = chances.ask(ASK_LAWFUL, other, other);
        return bit(both * tomorrow.total() == first * second);
    }

    public long mean(int part) {
        if (book.laws == 0 || !isPart(part)) {
            return NONE;
        }
        throwTomorrow();
        long sum = 0;
        for (int many = 1; many <= THROWS_AGAIN; many++) {
            sum += many * at(tomorrow.byThrown, many);
        }
        return fraction(sum, tomorrow.total(), part);
    }

    private void throwTomorrow() {
        tomorrow.load(book, diary);
        tomorrow.toss(false);
    }

    private long chance(int sort, int one, int other) {
        tomorrow.load(book, diary);
        tomorrow.toss(sort == ASK_FACES || sort == ASK_GIVEN);
        return chances.ask(sort, one, other);
    }

    // ---- deeds and suits

    public int act(int person, int deed, int day) {
        if (!isPerson(person) || !isDeed(deed) || !diary.has(day)) {
            return NONE;
        }
        return diary.acts >= ACTS || diary.did(person, deed, day) ? NONE : diary.enter(person, deed, day);
    }

    public int suit(int person, int i) {
        if (!isPerson(person) || i < NONE) {
            return NONE;
        }
        int many = 0;
        for (int place = 0; place < diary.days * DEEDS; place++) {
            int breach = diary.breach(person, place % DEEDS, place / DEEDS);
            if (breach != NONE && many == i) {
                return breach;
            }
            many += bit(breach != NONE);
        }
        return i == NONE ? many : NONE;
    }

    public int idle(int person) {
        if (!isPerson(person)) {
            return NONE;
        }
        int many = 0;
        for (int day = 0; day < diary.days; day++) {
            many += bit(at(diary.done, day * PERSONS + person) == 0);
        }
        return many;
    }

    // ---- weighted dice

    public boolean suspect(int a, int b, int c, int d, int e, int f) {
        if (!isWeighed(a, b, c, d, e, f)) {
            return false;
        }
        copy(wanted, 0, asked, 0, FACES);
        return true;
    }

    public int named(int law, int dawns, int doubt) {
        if (!book.has(law, 0) || !isDoubt(doubt) || dawns < 1 || dawns > 15 || dawns > diary.days) {
            return NONE;
        }
        return bit(isNamed(law, dawns, doubt));
    }

    public int enough(int law, int doubt) {
        if (!book.has(law, 0) || !isDoubt(doubt)) {
            return NONE;
        }
        for (int dawns = 1; dawns <= 15 && dawns <= diary.days; dawns++) {
            if (isNamed(law, dawns, doubt)) {
                return dawns;
            }
        }
        return NONE;
    }

    private boolean isNamed(int law, int dawns, int doubt) {
        long product = 1;
        long even = doubt;
        for (int day = diary.days - dawns; day < diary.days; day++) {
            product *= at(asked, diary.faceOf(law, day));
            even *= 2;
        }
        return product >= even;
    }

    // ---- amendments

    public long amended(int law, int face, int clause, int deed) {
        if (!book.has(law, face) || !isClause(clause) || !isDeed(deed)) {
            return HIDDEN;
        }
        long before = chance(ASK_LAWFUL, deed, deed);
        tomorrow.alter(law, face, clause);
        tomorrow.toss(false);
        return chances.ask(ASK_LAWFUL, deed, deed) - before;
    }

    public long change(int law, int from, int to, int deed) {
        if (!book.has(law, from) || !book.has(law, to) || from == to || !isDeed(deed)) {
            return HIDDEN;
        }
        if (book.weightOf(law, from) == 0) {
            return HIDDEN;
        }
        long before = chance(ASK_LAWFUL, deed, deed);
        tomorrow.shift(law, from, to);
        tomorrow.toss(false);
        return chances.ask(ASK_LAWFUL, deed, deed) - before;
    }

    public long help(int deed, int what) {
        if (book.laws == 0 || !isDeed(deed) || what < 0 || what > 1) {
            return HIDDEN;
        }
        long before = chance(ASK_LAWFUL, deed, deed);
        long most = 0;
        int best = NONE;
        for (int cell = 0; cell < book.laws * FACES; cell++) {
            int law = cell / FACES;
            int face = cell % FACES;
            // n and o are left out: neither can do better than the . that comes first on the same FACE
            tomorrow.load(book, diary);
            tomorrow.alter(law, face, 0);
            tomorrow.toss(false);
            long nothing = chances.ask(ASK_LAWFUL, deed, deed);
            // m has no more DICE thrown again than . has: the ways stay as they are
            tomorrow.alter(law, face, MAY + deed);
            long may = chances.ask(ASK_LAWFUL, deed, deed);
            if (best == NONE || nothing > most || may > most) {
                most = Math.max(nothing, may);
                best = 1000 * law + 100 * face + (nothing == most ? 0 : MAY + deed);
            }
        }
        return what == 0 ? best : most - before;
    }

    // ---- rules

    public int follow(int rule, int deed, int what) {
        if (rule < 0 || rule >= ruleCount || !isDeed(deed) || what < 0 || what > 2) {
            return NONE;
        }
        Text text = rule < rules.length ? rules[rule] : null;
        if (text == null) {
            return NONE;
        }
        int latest = 0;
        int many = 0;
        for (int day = 0; day < diary.days; day++) {
            setLetters(deed, day, day - latest);
            ruleReader.read(text, letters);
            boolean done = ruleReader.worth > 0;
            latest = done ? day : latest;
            many += bit(isFollowed(done, deed, day, what));
        }
        return many;
    }

    private boolean isFollowed(boolean done, int deed, int day, int what) {
        if (what == 2) {
            return !done && diary.boundOn(day, deed);
        }
        return done && (what == 0 || !diary.lawfulOn(day, deed));
    }

    private void setLetters(int deed, int day, int since) {
        put(letters, 0, bit(diary.lawfulOn(day, deed)));
        put(letters, 1, bit(diary.boundOn(day, deed)));
        put(letters, 2, diary.by(day, MAY + deed));
        put(letters, 3, diary.by(day, MUST_NOT + deed));
        put(letters, 4, since);
        put(letters, 5, day);
    }

    // ---- what the diary tells

    public int run(int deed, int what) {
        if (!isDeed(deed) || what < 0 || what > 1) {
            return HIDDEN;
        }
        int longest = 0;
        int first = NONE;
        int row = 0;
        for (int day = 0; day < diary.days; day++) {
            row = diary.lawfulOn(day, deed) ? row + 1 : 0;
            if (row > longest) {
                longest = row;
                first = day - row + 1;
            }
        }
        return what == 0 ? longest : first;
    }

    public int peace(int what) {
        if (what < 0 || what > 1) {
            return HIDDEN;
        }
        int many = 0;
        int first = NONE;
        for (int day = diary.days - 1; day >= 0; day--) {
            if (diary.isPeaceful(day)) {
                many++;
                first = day;
            }
        }
        return what == 0 ? many : first;
    }

    public int busiest() {
        int busiest = NONE;
        int most = NONE;
        for (int day = 0; day < diary.days; day++) {
            int many = 0;
            for (int deed = 0; deed < DEEDS; deed++) {
                many += bit(diary.boundOn(day, deed));
            }
            if (many > most) {
                most = many;
                busiest = day;
            }
        }
        return busiest;
    }

    // ---- images and counts

    public int image() {
        keptBook.take(book);
        keptDiary.take(diary);
        kept = true;
        return diary.days;
    }

    public int back() {
        if (!kept) {
            return NONE;
        }
        book.take(keptBook);
        diary.take(keptDiary);
        return diary.days;
    }

    public int count(int what) {
        switch (what) {
            case 0:
                return book.laws;
            case 1:
                return ruleCount;
            case 2:
                return tape.length;
            case 3:
                return diary.days;
            case 4:
                return diary.acts;
            default:
                return HIDDEN;
        }
    }

    // ---- what may be asked

    private static boolean isDeed(int deed) {
        return deed >= 0 && deed < DEEDS;
    }

    private static boolean areTwoDeeds(int one, int other) {
        return isDeed(one) && isDeed(other) && one != other;
    }

    private static boolean isPerson(int person) {
        return person >= 0 && person < PERSONS;
    }

    private static boolean isPart(int part) {
        return part == 0 || part == 1;
    }

    private static boolean isDoubt(int doubt) {
        return doubt >= 1 && doubt <= 1000;
    }

    private static boolean isClause(int clause) {
        if (clause == 0 || clause == YESTERDAY) {
            return true;
        }
        if (clause < MAY || clause > YESTERDAY) {
            return false;
        }
        return clause % 10 < (clause < THROW_AGAIN ? DEEDS : LAWS);
    }

    // ---- rows, none of which is read or written outside its length

    private static int at(int[] row, int i) {
        return i >= 0 && i < row.length ? row[i] : 0;
    }

    private static long at(long[] row, int i) {
        return i >= 0 && i < row.length ? row[i] : 0;
    }

    private static void put(int[] row, int i, int v) {
        if (i >= 0 && i < row.length) {
            row[i] = v;
        }
    }

    private static void put(long[] row, int i, long v) {
        if (i >= 0 && i < row.length) {
            row[i] = v;
        }
    }

    private static void raise(long[] row, int i, long more) {
        put(row, i, at(row, i) + more);
    }

    private static void clear(long[] row, int many) {
        for (int i = 0; i < many; i++) {
            put(row, i, 0L);
        }
    }

    private static void copy(int[] from, int start, int[] to, int place, int many) {
        for (int i = 0; i < many; i++) {
            put(to, place + i, at(from, start + i));
        }
    }

    private static void copyAll(int[] from, int[] to) {
        copy(from, 0, to, 0, to.length);
    }

    // ---- numbers

    private static int bit(boolean holds) {
        return holds ? 1 : 0;
    }

    private static int bytesIn(int number) {
        int many = 0;
        for (int shift = 0; shift < 32; shift += 8) {
            many += bit((number >>> shift & 255) != 0);
        }
        return many;
    }

    private static long fraction(long above, long below, int part) {
        if (below <= 0 || !isPart(part)) {
            return NONE;
        }
        long divisor = commonDivisor(below, above);
        if (divisor == 0) {
            return NONE;
        }
        return (part == 0 ? above : below) / divisor;
    }

    private static long commonDivisor(long one, long other) {
        long a = one;
        long b = other;
        // a hundred steps are enough for any two longs
        for (int i = 0; i < 100 && b != 0; i++) {
            long rest = a % b;
            a = b;
            b = rest;
        }
        return a;
    }

    // ---- what holds

    /** The LAW whose DIE a CLAUSE has thrown again, NONE if there is no such LAW. */
    private static int aimOf(int clause, int laws) {
        int law = clause - THROW_AGAIN;
        return clause < COPY && law >= 0 && law < laws ? law : NONE;
    }

    /** The CLAUSE with YESTERDAY and LAWS that are not there made plain. */
    private static int settled(int clause, int laws, int yesterday) {
        if (clause == YESTERDAY) {
            return yesterday;
        }
        if (clause >= COPY) {
            return clause - COPY < laws ? clause : 0;
        }
        return clause >= THROW_AGAIN && aimOf(clause, laws) == NONE ? 0 : clause;
    }

    /** What HOLDS of a LAW, when the LAWS show these settled CLAUSES. */
    private static int heldBy(int[] shows, int laws, int law) {
        int asked = law;
        for (int hops = 0; hops <= laws; hops++) {
            int clause = at(shows, asked);
            if (clause < COPY) {
                return clause < THROW_AGAIN ? clause : 0;
            }
            asked = clause - COPY;
        }
        return 0;
    }

    /** The lowest LAW that is to have a DIE thrown again and has not done so. */
    private static int lowest(int[] aims, int laws, int done) {
        for (int law = 0; law < laws; law++) {
            if (at(aims, law) != NONE && (done >> law & 1) == 0) {
                return law;
            }
        }
        return NONE;
    }

    private static int byHowMany(int[] holding, int from, int laws, int clause) {
        int many = 0;
        for (int i = from; i < from + laws; i++) {
            if (i >= 0 && i < holding.length && holding[i] == clause) {
                many++;
            }
        }
        return many;
    }

    private static boolean isLawful(int[] holding, int from, int laws, int deed) {
        int forbidden = byHowMany(holding, from, laws, MUST_NOT + deed);
        return forbidden == 0 || byHowMany(holding, from, laws, MAY + deed) > forbidden;
    }

    private static boolean isBound(int[] holding, int from, int laws, int deed) {
        return byHowMany(holding, from, laws, MUST + deed) > 0 && isLawful(holding, from, laws, deed);
    }

    /** Signs in a row: the TAPE, or a RULE. */
    private static final class Text {
        private final int[] signs = new int[BYTES];
        private int length;

        private void append(int number) {
            for (int shift = 24; shift >= 0; shift -= 8) {
                int sign = number >>> shift & 255;
                if (sign != 0 && length < BYTES) {
                    put(signs, length, sign);
                    length++;
                }
            }
        }

        private void take(Text other) {
            copyAll(other.signs, signs);
            length = other.length;
        }
    }

    /** Goes through a TEXT sign by sign, up to the first FAULT. */
    private static final class Cursor {
        private static final int NO_SIGN = 0;

        private Text text;
        private int place;
        private int fault;

        private void start(Text from) {
            text = from;
            place = 0;
            fault = NONE;
        }

        /** The sign that comes next, behind blanks; none at the end and behind a FAULT. */
        private int peek() {
            if (fault != NONE || text == null) {
                return NO_SIGN;
            }
            int[] signs = text.signs;
            for (; place >= 0 && place < text.length && place < signs.length; place++) {
                if (signs[place] != ' ') {
                    return signs[place];
                }
            }
            return NO_SIGN;
        }

        /** The sign that stands here, a blank too: digits of one number have none between. */
        private int here() {
            if (text == null || place < 0 || place >= text.length || place >= text.signs.length) {
                return NO_SIGN;
            }
            return text.signs[place];
        }

        private void step() {
            place++;
        }

        private boolean accept(int sign) {
            if (peek() != sign) {
                return false;
            }
            place++;
            return true;
        }

        private void need(int sign) {
            if (peek() == sign) {
                place++;
            } else {
                fail();
            }
        }

        private void needEnd() {
            if (peek() != NO_SIGN) {
                fail();
            }
        }

        /** How far behind the first sign the next one stands. */
        private int needOneOf(int first, int last) {
            int sign = peek();
            if (sign < first || sign > last) {
                fail();
                return 0;
            }
            place++;
            return sign - first;
        }

        private void fail() {
            if (fault == NONE) {
                fault = place;
            }
        }
    }

    /** Reads a TEXT as a LAW. */
    private static final class LawReader {
        private final Cursor cursor = new Cursor();
        private final int[] clauses = new int[FACES];

        private int read(Text text) {
            cursor.start(text);
            for (int face = 0; face < FACES; face++) {
                if (face > 0) {
                    cursor.need(',');
                }
                put(clauses, face, readClause());
            }
            cursor.needEnd();
            return cursor.fault;
        }

        private int readClause() {
            if (cursor.accept('.')) {
                return 0;
            }
            if (cursor.accept('m')) {
                return MAY + cursor.needOneOf('a', 'f');
            }
            if (cursor.accept('n')) {
                return MUST_NOT + cursor.needOneOf('a', 'f');
            }
            if (cursor.accept('o')) {
                return MUST + cursor.needOneOf('a', 'f');
            }
            if (cursor.accept('t')) {
                return THROW_AGAIN + cursor.needOneOf('0', '4');
            }
            if (cursor.accept('c')) {
                return COPY + cursor.needOneOf('0', '4');
            }
            cursor.need('y');
            return YESTERDAY;
        }
    }

    /** Reads a TEXT as a RULE, and reckons its WORTH on the way. */
    private static final class RuleReader {
        private static final int DEEPEST = 6;
        private static final int DIGITS = 4;

        private final Cursor cursor = new Cursor();
        private final int[] letters = new int[6];
        private int worth;
        private boolean decided;
        private boolean isAhead;
        private int ahead;

        private int read(Text text, int[] meant) {
            copyAll(meant, letters);
            cursor.start(text);
            worth = 0;
            decided = false;
            readClause();
            for (int i = 0; i < BYTES && cursor.accept(';'); i++) {
                readClause();
            }
            cursor.needEnd();
            return cursor.fault;
        }

        private void readClause() {
            cursor.need('y');
            cursor.need(':');
            int first = cursor.peek();
            boolean opens = first == '!' || first == '(';
            int sum = opens ? 0 : readSum(0);
            boolean met = true;
            if (opens || isComparison(cursor.peek())) {
                // only behind a whole SUM it shows that a CONDITION has begun
                isAhead = !opens;
                ahead = sum;
                met = readCondition(0);
                cursor.need('?');
                sum = readSum(0);
            }
            if (met && !decided) {
                worth = sum;
                decided = true;
            }
        }

        private boolean readCondition(int depth) {
            boolean met = readTruth(depth);
            for (int i = 0; i < BYTES && cursor.accept('|'); i++) {
                met = readTruth(depth) || met;
            }
            return met;
        }

        private boolean readTruth(int depth) {
            boolean met = readUnit(depth);
            for (int i = 0; i < BYTES && cursor.accept('&'); i++) {
                met = readUnit(depth) && met;
            }
            return met;
        }

        private boolean readUnit(int depth) {
            int sign = isAhead ? 0 : cursor.peek();
            if (sign == '!') {
                return opens(depth) && !readUnit(depth + 1);
            }
            if (sign == '(') {
                boolean met = opens(depth) && readCondition(depth + 1);
                cursor.need(')');
                return met;
            }
            int left = isAhead ? ahead : readSum(depth);
            isAhead = false;
            int comparison = cursor.peek();
            if (!isComparison(comparison)) {
                cursor.fail();
                return false;
            }
            cursor.step();
            int right = readSum(depth);
            return comparison == '=' ? left == right : comparison == '<' ? left < right : left > right;
        }

        private int readSum(int depth) {
            int sum = readTerm(depth);
            for (int i = 0; i < BYTES; i++) {
                if (cursor.accept('+')) {
                    sum = bounded((long) sum + readTerm(depth));
                } else if (cursor.accept('-')) {
                    sum = bounded((long) sum - readTerm(depth));
                } else {
                    return sum;
                }
            }
            return sum;
        }

        private int readTerm(int depth) {
            int term = readAtom(depth);
            for (int i = 0; i < BYTES; i++) {
                if (cursor.accept('*')) {
                    term = bounded((long) term * readAtom(depth));
                } else if (cursor.accept('/')) {
                    int divisor = readAtom(depth);
                    term = divisor == 0 ? 0 : bounded(term / divisor);
                } else {
                    return term;
                }
            }
            return term;
        }

        private int readAtom(int depth) {
            int sign = cursor.peek();
            if (sign >= '0' && sign <= '9') {
                return readNumber();
            }
            if (sign == '[') {
                int sum = opens(depth) ? readSum(depth + 1) : 0;
                cursor.need(']');
                return sum;
            }
            int letter = letterOf(sign);
            if (letter == NONE) {
                cursor.fail();
                return 0;
            }
            cursor.step();
            return at(letters, letter);
        }

        private int readNumber() {
            int number = 0;
            for (int i = 0; i < DIGITS && cursor.here() >= '0' && cursor.here() <= '9'; i++) {
                number = number * 10 + cursor.here() - '0';
                cursor.step();
            }
            return number;
        }

        private boolean opens(int depth) {
            if (depth >= DEEPEST) {
                cursor.fail();
                return false;
            }
            cursor.step();
            return true;
        }

        private static int letterOf(int sign) {
            switch (sign) {
                case 'l':
                    return 0;
                case 'd':
                    return 1;
                case 'm':
                    return 2;
                case 'n':
                    return 3;
                case 'w':
                    return 4;
                case 't':
                    return 5;
                default:
                    return NONE;
            }
        }

        private static boolean isComparison(int sign) {
            return sign == '=' || sign == '<' || sign == '>';
        }

        private static int bounded(long number) {
            return (int) Math.max(-1000000L, Math.min(1000000L, number));
        }
    }

    /** The LAWS and their DICE. */
    private static final class Book {
        private int laws;
        private final int[] clauses = new int[LAWS * FACES];
        private final int[] weights = new int[LAWS * FACES];

        private void add(int[] told) {
            for (int face = 0; face < FACES; face++) {
                put(clauses, laws * FACES + face, at(told, face));
                put(weights, laws * FACES + face, 2);
            }
            laws++;
        }

        private boolean has(int law, int face) {
            return law >= 0 && law < laws && face >= 0 && face < FACES;
        }

        private int clauseOf(int law, int face) {
            return at(clauses, law * FACES + face);
        }

        private int weightOf(int law, int face) {
            return at(weights, law * FACES + face);
        }

        private void take(Book other) {
            laws = other.laws;
            copyAll(other.clauses, clauses);
            copyAll(other.weights, weights);
        }
    }

    /** Dice that are thrown by draws, or laid as told. */
    private static final class Dice {
        private final int[] lies = new int[LAWS];
        private final int[] aims = new int[LAWS];
        private int thrown;
        private long x;

        private boolean lay(int laws, int faces) {
            int rest = faces;
            for (int law = laws - 1; law >= 0; law--) {
                put(lies, law, rest % FACES);
                rest /= FACES;
            }
            return faces >= 0 && rest == 0;
        }

        /** Throws the DICE for a DAWN; where the draws stand then. */
        private long throwAll(Book book, long before) {
            x = before;
            thrown = 0;
            for (int law = 0; law < book.laws; law++) {
                throwOne(book, law);
            }
            int done = 0;
            for (int i = 0; i < THROWS_AGAIN; i++) {
                int law = lowest(aims, book.laws, done);
                if (law == NONE) {
                    return x;
                }
                int die = at(aims, law);
                done = (done | 1 << law) & ~(1 << die);
                throwOne(book, die);
                thrown++;
            }
            return x;
        }

        private void throwOne(Book book, int law) {
            x = x * 6364136223846793005L + 1442695040888963407L;
            long drawn = (x >>> 33) % TOGETHER;
            int face = 0;
            int sum = book.weightOf(law, 0);
            for (int next = 1; next < FACES && sum <= drawn; next++) {
                face = next;
                sum += book.weightOf(law, next);
            }
            put(lies, law, face);
            put(aims, law, aimOf(book.clauseOf(law, face), book.laws));
        }
    }

    /** The DAWNS, what HELD then, what was done, and the draws. */
    private static final class Diary {
        private long x;
        private int laws;
        private int days;
        private int acts;
        private final int[] lies = new int[DAWNS * LAWS];
        private final int[] holding = new int[DAWNS * LAWS];
        private final int[] thrown = new int[DAWNS];
        private final int[] done = new int[DAWNS * PERSONS];
        private final long[] before = new long[DAWNS];
        private final int[] shows = new int[LAWS];

        private boolean has(int day) {
            return day >= 0 && day < days;
        }

        private int add(Book book, int[] faces, int again, long drawsBefore) {
            laws = book.laws;
            for (int law = 0; law < laws; law++) {
                int clause = book.clauseOf(law, at(faces, law));
                put(lies, days * LAWS + law, at(faces, law));
                put(shows, law, settled(clause, laws, today(law)));
            }
            for (int law = 0; law < laws; law++) {
                put(holding, days * LAWS + law, heldBy(shows, laws, law));
            }
            put(thrown, days, again);
            put(before, days, drawsBefore);
            days++;
            return days;
        }

        private int drop() {
            days--;
            x = at(before, days);
            for (int person = 0; person < PERSONS; person++) {
                acts -= Integer.bitCount(at(done, days * PERSONS + person));
                put(done, days * PERSONS + person, 0);
            }
            return days;
        }

        private int digits(int day) {
            int digits = 0;
            for (int law = 0; law < laws; law++) {
                digits = digits * FACES + faceOf(law, day);
            }
            return digits;
        }

        private int faceOf(int law, int day) {
            return at(lies, day * LAWS + law);
        }

        private int holdingOf(int law, int day) {
            return at(holding, day * LAWS + law);
        }

        /** What HOLDS of a LAW now: nothing without a DAWN. */
        private int today(int law) {
            return days == 0 ? 0 : holdingOf(law, days - 1);
        }

        private int by(int day, int clause) {
            return byHowMany(holding, day * LAWS, laws, clause);
        }

        private boolean lawfulOn(int day, int deed) {
            return isLawful(holding, day * LAWS, laws, deed);
        }

        private boolean boundOn(int day, int deed) {
            return isBound(holding, day * LAWS, laws, deed);
        }

        private boolean isPeaceful(int day) {
            for (int deed = 0; deed < DEEDS; deed++) {
                if (by(day, MUST_NOT + deed) > 0) {
                    return false;
                }
            }
            return true;
        }

        private boolean did(int person, int deed, int day) {
            return (at(done, day * PERSONS + person) >> deed & 1) != 0;
        }

        private int enter(int person, int deed, int day) {
            int place = day * PERSONS + person;
            put(done, place, at(done, place) | 1 << deed);
            acts++;
            return acts;
        }

        /** The BREACH of a PERSON on a day by a DEED, NONE if there is none. */
        private int breach(int person, int deed, int day) {
            boolean did = did(person, deed, day);
            boolean breaks = did ? !lawfulOn(day, deed) : boundOn(day, deed);
            return breaks ? 12 * day + 2 * deed + bit(!did) : NONE;
        }

        private void take(Diary other) {
            x = other.x;
            laws = other.laws;
            days = other.days;
            acts = other.acts;
            copyAll(other.lies, lies);
            copyAll(other.holding, holding);
            copyAll(other.thrown, thrown);
            copyAll(other.done, done);
            for (int i = 0; i < before.length; i++) {
                put(before, i, at(other.before, i));
            }
        }
    }

    /** FACES of each DIE that are alike in some sign, taken together. */
    private static final class Kinds {
        private final int[] many = new int[LAWS];
        private final int[] signs = new int[LAWS * FACES];
        private final int[] shares = new int[LAWS * FACES];

        private void empty() {
            for (int law = 0; law < LAWS; law++) {
                put(many, law, 0);
            }
        }

        /** The kind to which a FACE of this sign and WEIGHT comes. */
        private int add(int law, int sign, int weight) {
            int kinds = at(many, law);
            for (int kind = 0; kind < kinds; kind++) {
                if (signOf(law, kind) == sign) {
                    put(shares, law * FACES + kind, shareOf(law, kind) + weight);
                    return kind;
                }
            }
            put(signs, law * FACES + kinds, sign);
            put(shares, law * FACES + kinds, weight);
            put(many, law, kinds + 1);
            return kinds;
        }

        private int signOf(int law, int kind) {
            return at(signs, law * FACES + kind);
        }

        private int shareOf(int law, int kind) {
            return at(shares, law * FACES + kind);
        }
    }

    /**
     * The ways in which tomorrow's DICE can fall. A DIE is looked at only when it may have one thrown again: until then
     * all that it can show counts together. FACES that have the same DIE thrown again, or none, are one type.
     */
    private static final class Tomorrow {
        private static final int UNSEEN = -1;

        private int laws;
        private final int[] clauses = new int[LAWS * FACES];
        private final int[] weights = new int[LAWS * FACES];
        private final int[] yesterday = new int[LAWS];
        private boolean fine;
        private final Kinds types = new Kinds();
        /** Types that need not be told apart in the end, taken together. */
        private final Kinds lots = new Kinds();
        private final int[] lotOfType = new int[LAWS * FACES];
        private final int[] lotOfFace = new int[LAWS * FACES];
        private final int[] steps = new int[LAWS];
        private final int[] lies = new int[LAWS];
        private final long[] ends = new long[ALL_FACES];
        private final long[] byThrown = new long[THROWS_AGAIN + 1];

        private void load(Book book, Diary diary) {
            laws = book.laws;
            copyAll(book.clauses, clauses);
            copyAll(book.weights, weights);
            for (int law = 0; law < laws; law++) {
                put(yesterday, law, diary.today(law));
            }
        }

        private void alter(int law, int face, int clause) {
            put(clauses, law * FACES + face, clause);
        }

        private void shift(int law, int from, int to) {
            put(weights, law * FACES + from, at(weights, law * FACES + from) - 1);
            put(weights, law * FACES + to, at(weights, law * FACES + to) + 1);
        }

        private long total() {
            long total = 1;
            for (int i = 0; i < laws + THROWS_AGAIN; i++) {
                total *= TOGETHER;
            }
            return total;
        }

        private int showsOn(int law, int face) {
            return settled(at(clauses, law * FACES + face), laws, at(yesterday, law));
        }

        /** Which DIE was to be thrown again matters in the end only to a question about single FACES: a fine one. */
        private int lotSign(int aim) {
            return fine ? aim : Math.min(aim, 0);
        }

        private void toss(boolean forFaces) {
            fine = forFaces;
            sortTypes();
            int size = 1;
            for (int law = 0; law < laws; law++) {
                put(lies, law, UNSEEN);
                put(steps, law, size);
                size *= at(lots.many, law);
            }
            clear(ends, size);
            clear(byThrown, byThrown.length);
            look(0, 0, 1);
        }

        private void sortTypes() {
            types.empty();
            lots.empty();
            for (int cell = 0; cell < laws * FACES; cell++) {
                int weight = at(weights, cell);
                if (weight > 0) {
                    int law = cell / FACES;
                    int aim = aimOf(at(clauses, cell), laws);
                    int lot = lots.add(law, lotSign(aim), weight);
                    put(lotOfType, law * FACES + types.add(law, aim, weight), lot);
                    put(lotOfFace, cell, lot);
                }
            }
        }

        /**
         * Looks at the lowest DIE that was not seen since it fell, from this LAW on: those that were seen have no DIE
         * thrown again, or have had it so.
         */
        private void look(int law, int thrown, long ways) {
            int next = law;
            while (next < laws && at(lies, next) != UNSEEN) {
                next++;
            }
            if (next >= laws) {
                rest(thrown, ways);
                return;
            }
            for (int type = 0; type < at(types.many, next); type++) {
                put(lies, next, type);
                long now = ways * types.shareOf(next, type);
                if (types.signOf(next, type) == NONE) {
                    look(next + 1, thrown, now);
                } else {
                    throwAgain(next, thrown, now);
                }
            }
            put(lies, next, UNSEEN);
        }

        private void throwAgain(int law, int thrown, long ways) {
            int die = types.signOf(law, at(lies, law));
            int before = at(lies, die);
            // a DIE that is thrown again unseen has shown any FACE
            long now = before == UNSEEN ? ways * TOGETHER : ways;
            put(lies, die, UNSEEN);
            if (thrown + 1 < THROWS_AGAIN) {
                look(Math.min(law, die), thrown + 1, now);
            } else {
                rest(THROWS_AGAIN, now);
            }
            put(lies, die, before);
        }

        /** Nothing is thrown any more, so that it does not matter what the unseen DICE show. */
        private void rest(int thrown, long ways) {
            long now = ways;
            for (int i = thrown; i < THROWS_AGAIN; i++) {
                now *= TOGETHER;
            }
            long all = now;
            for (int law = 0; law < laws; law++) {
                all *= at(lies, law) == UNSEEN ? TOGETHER : 1;
            }
            raise(byThrown, thrown, all);
            spread(0, 0, now);
        }

        /** Counts the ways where they end; those of an unseen DIE in all its lots. */
        private void spread(int law, int index, long ways) {
            if (law >= laws) {
                raise(ends, index, ways);
                return;
            }
            int type = at(lies, law);
            int step = at(steps, law);
            if (type != UNSEEN) {
                spread(law + 1, index + at(lotOfType, law * FACES + type) * step, ways);
                return;
            }
            for (int lot = 0; lot < at(lots.many, law); lot++) {
                spread(law + 1, index + lot * step, ways * lots.shareOf(law, lot));
            }
        }
    }

    /** In how many of tomorrow's ways something is so. FACES that mean the same for a question are one kind. */
    private static final class Chances {
        private final Tomorrow tomorrow = new Tomorrow();
        private final Kinds kinds = new Kinds();
        private final int[] kindOf = new int[LAWS * FACES];
        private final int[] lotOf = new int[LAWS * FACES];
        private final int[] lies = new int[LAWS];
        private final int[] shows = new int[LAWS];
        private final int[] holding = new int[LAWS];
        private final long[] allOf = new long[LAWS * FACES];
        private final long[] metOf = new long[LAWS * FACES];
        private int sort;
        private int one;
        private int other;
        private long met;
        private long most;
        private int mostFaces;

        private long ask(int newSort, int newOne, int newOther) {
            sort = newSort;
            one = newOne;
            other = newOther;
            met = 0;
            most = 0;
            mostFaces = 0;
            clear(allOf, allOf.length);
            clear(metOf, metOf.length);
            sortKinds();
            lay(0, 0, 1, 1);
            return met;
        }

        private void sortKinds() {
            kinds.empty();
            for (int cell = 0; cell < tomorrow.laws * FACES; cell++) {
                int law = cell / FACES;
                int weight = at(tomorrow.weights, cell);
                int kind = NONE;
                if (weight > 0) {
                    kind = kinds.add(law, meaning(tomorrow.showsOn(law, cell % FACES), cell % FACES), weight);
                    put(lotOf, law * FACES + kind, at(tomorrow.lotOfFace, cell));
                }
                put(kindOf, cell, kind);
            }
        }

        /** A sign that is the same for FACES between which the question does not tell. */
        private int meaning(int clause, int face) {
            if (sort == ASK_FACES) {
                return face;
            }
            if (clause >= COPY) {
                return clause;
            }
            if (clause >= THROW_AGAIN) {
                return THROW_AGAIN + tomorrow.lotSign(clause - THROW_AGAIN);
            }
            if (sort == ASK_FREE) {
                return clause >= MUST_NOT && clause < MUST ? MUST_NOT : 0;
            }
            if (sort == ASK_HOLDS) {
                int another = other == 0 ? MAY : 0;
                return clause == other ? other : another;
            }
            int deed = clause % 10;
            return clause >= MAY && (deed == one || deed == other) && bears(clause) ? clause : 0;
        }

        /** Whether a question on a DEED turns on whether it MAY, MUST NOT or MUST be done. */
        private boolean bears(int clause) {
            if (sort == ASK_MUST) {
                return true;
            }
            return sort == ASK_FORBIDDEN ? clause >= MUST_NOT && clause < MUST : clause < MUST;
        }

        /** The DIE of this LAW and the later ones lie in the end: in so many ways of those of their lots. */
        private void lay(int law, int index, long ways, long lotWays) {
            if (law >= tomorrow.laws) {
                long all = lotWays == 0 ? 0 : at(tomorrow.ends, index) / lotWays * ways;
                if (sort == ASK_FACES) {
                    noteFaces(all);
                } else if (all > 0) {
                    note(all, isMet() ? all : 0);
                }
                return;
            }
            int step = at(tomorrow.steps, law);
            for (int kind = 0; kind < at(kinds.many, law); kind++) {
                int lot = at(lotOf, law * FACES + kind);
                int share = kinds.shareOf(law, kind);
                int lotShare = tomorrow.lots.shareOf(law, lot);
                put(lies, law, kind);
                put(shows, law, kinds.signOf(law, kind));
                if (share == lotShare) {
                    // all ways of the lot: those of several types need not be a multiple of its share
                    lay(law + 1, index + lot * step, ways, lotWays);
                } else {
                    lay(law + 1, index + lot * step, ways * share, lotWays * lotShare);
                }
            }
        }

        private void note(long all, long metNow) {
            met += metNow;
            if (sort != ASK_GIVEN) {
                return;
            }
            for (int law = 0; law < tomorrow.laws; law++) {
                raise(allOf, law * FACES + at(lies, law), all);
                raise(metOf, law * FACES + at(lies, law), metNow);
            }
        }

        private void noteFaces(long all) {
            // FACES come from the least up: a later one must have more ways
            if (all <= most) {
                return;
            }
            most = all;
            mostFaces = 0;
            for (int law = 0; law < tomorrow.laws; law++) {
                mostFaces = mostFaces * FACES + at(shows, law);
            }
        }

        private boolean isMet() {
            int laws = tomorrow.laws;
            for (int law = 0; law < laws; law++) {
                put(holding, law, heldBy(shows, laws, law));
            }
            switch (sort) {
                case ASK_MUST:
                    return isBound(holding, 0, laws, one);
                case ASK_FORBIDDEN:
                    return byHowMany(holding, 0, laws, MUST_NOT + one) > 0;
                case ASK_BOTH:
                    return isLawful(holding, 0, laws, one) && isLawful(holding, 0, laws, other);
                case ASK_FREE:
                    return byHowMany(holding, 0, laws, MUST_NOT) == 0;
                case ASK_HOLDS:
                    return at(holding, one) == other;
                default:
                    return isLawful(holding, 0, laws, one);
            }
        }

        /** The ways for all FACES of the kind of this FACE: their parts are those of the FACE. */
        private long allBy(int law, int face) {
            int kind = at(kindOf, law * FACES + face);
            return kind == NONE ? 0 : at(allOf, law * FACES + kind);
        }

        private long metBy(int law, int face) {
            int kind = at(kindOf, law * FACES + face);
            return kind == NONE ? 0 : at(metOf, law * FACES + kind);
        }
    }
}
