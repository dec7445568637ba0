/**
 * A book of feuds and promises.
 *
 * <p>The tape is cut into {@link Tokens}; {@link Reader} reads them into a draft, which becomes the
 * {@link Book} only if it has no error. {@link Web} tells what follows and {@link Peaces} which
 * peaces there are, both for any set of standing statements; {@link Judge} lets days go by.
 *
 * <p>Sets of statements, claims and families are ints, in which bit i stands for the number i. All
 * rows are made once, with the book, and used again by every call.
 */
public final class FeudBook {
    private static final int MAX_TAPE = 2000;
    private static final int MAX_TOKENS = 400;
    private static final int MAX_WORD = 10;
    private static final int MAX_DIGITS = 6;
    private static final int MAX_DEPTH = 8;
    private static final int MAX_FAMILIES = 10;
    private static final int MAX_CLAIMS = 2 * MAX_FAMILIES;
    private static final int MAX_STATEMENTS = 20;
    private static final int MAX_ORDERS = 16;
    private static final int MAX_DAYS = 30;

    private static final int NOT_ALLOWED = 1;
    private static final int TOLD_AHEAD = 2;
    private static final int NOT_TOLD = 3;
    private static final int TOO_MANY = 4;

    private static final int PROMISE_KIND = 0;
    private static final int PACT_KIND = 1;
    private static final int FEUD_KIND = 2;
    private static final int OATH_KIND = 3;

    // The kind of a symbol of one byte is that byte; all others lie above the bytes.
    private static final int LESS_OR_EQUAL = 256;
    private static final int GREATER_OR_EQUAL = 257;
    private static final int NAME = 258;
    private static final int NUMBER = 259;
    private static final int END = 260;
    private static final int NO_TOKEN = 261;
    /** No token, but what a - in front becomes in the code of a test. */
    private static final int NEGATE = 262;
    private static final int NOTHING = 263;

    /** The kind of a keyword is FAMILY and how many of this row are ahead of it. */
    private static final String KEYWORDS =
            "family promise if then pact either or feud with oath rides stays break renew when day standing parts peaces possible stands follows from not and min max";
    private static final int KEYWORD_COUNT = 27;
    private static final int FAMILY = 300;
    private static final int PROMISE = 301;
    private static final int IF = 302;
    private static final int THEN = 303;
    private static final int PACT = 304;
    private static final int EITHER = 305;
    private static final int OR = 306;
    private static final int FEUD = 307;
    private static final int WITH = 308;
    private static final int OATH = 309;
    private static final int RIDES = 310;
    private static final int STAYS = 311;
    private static final int BREAK = 312;
    private static final int RENEW = 313;
    private static final int WHEN = 314;
    private static final int DAY = 315;
    private static final int STANDING = 316;
    private static final int PARTS = 317;
    private static final int PEACES = 318;
    private static final int POSSIBLE = 319;
    private static final int STANDS = 320;
    private static final int FOLLOWS = 321;
    private static final int FROM = 322;
    private static final int NOT = 323;
    private static final int AND = 324;
    private static final int MIN = 325;
    private static final int MAX = 326;

    private final Tape tape = new Tape();
    private final Tokens tokens = new Tokens();
    private final Book draft = new Book();
    private final Book book = new Book();
    private final Reader reader = new Reader(tokens, draft);
    private final Web web = new Web(book);
    private final Peaces land = new Peaces(book);
    private final Judge judge = new Judge(book, web, land);
    private final Course now = new Course();
    private final Course trial = new Course();
    private int errorPosition = -1;

    public FeudBook() {
    }

    // ---- the language

    public int feed(int a, int b, int c, int d, int e) throws IllegalStateException {
        if (tape.length > MAX_TAPE - 20) {
            throw new IllegalStateException("the tape would be too long");
        }
        tape.append(a);
        tape.append(b);
        tape.append(c);
        tape.append(d);
        tape.append(e);
        return tape.length;
    }

    public int trim(int n) throws IllegalArgumentException {
        if (n < 0 || n > tape.length) {
            throw new IllegalArgumentException("the tape does not have so many bytes");
        }
        tape.length = n;
        return n;
    }

    public int teach() {
        tokens.scan(tape);
        tape.length = 0;
        int error = reader.read();
        errorPosition = reader.errorPosition();
        if (error == 0) {
            begin();
        }
        return error;
    }

    public int errorAt() {
        return errorPosition;
    }

    // ---- the book

    public int families() {
        return book.families;
    }

    public int statements() {
        return book.statements;
    }

    public int orders() {
        return book.orders;
    }

    public int days() {
        return now.day;
    }

    public int ordersCarriedOut() {
        return now.carriedOut;
    }

    public int tapeBytes() {
        return tape.length;
    }

    public int standing() {
        return Integer.bitCount(now.standing);
    }

    // ---- what statements are

    public int kindOf(int statement) throws IndexOutOfBoundsException {
        needStatement(statement);
        return book.kind(statement);
    }

    public int firstClaimOf(int statement) throws IndexOutOfBoundsException {
        needStatement(statement);
        return book.first(statement);
    }

    public int secondClaimOf(int statement) throws IndexOutOfBoundsException {
        needStatement(statement);
        return book.second(statement);
    }

    public boolean stands(int statement) throws IndexOutOfBoundsException {
        needStatement(statement);
        return has(now.standing, statement);
    }

    public boolean isNeedless(int statement) throws IndexOutOfBoundsException, IllegalStateException {
        needStatement(statement);
        needStanding(statement);
        int peacesNow = land.count(now.standing);
        return land.count(without(now.standing, statement)) == peacesNow;
    }

    // ---- what follows

    public boolean follows(int claim, int from) throws IndexOutOfBoundsException {
        needClaim(claim);
        needClaim(from);
        return has(web.reach(now.standing, from), claim);
    }

    public int whatFollowsFrom(int claim) throws IndexOutOfBoundsException {
        needClaim(claim);
        return Integer.bitCount(web.reach(now.standing, claim));
    }

    public int fewestStatementsBetween(int claim, int from)
            throws IndexOutOfBoundsException, IllegalStateException {
        needClaim(claim);
        needClaim(from);
        int distance = web.distance(now.standing, claim, from);
        if (distance < 0) {
            throw new IllegalStateException("the claim does not follow");
        }
        return distance;
    }

    public int parts() {
        return web.countParts(now.standing);
    }

    public int partOf(int claim) throws IndexOutOfBoundsException {
        needClaim(claim);
        return lowest(web.part(now.standing, claim));
    }

    public int partSize(int claim) throws IndexOutOfBoundsException {
        needClaim(claim);
        return Integer.bitCount(web.part(now.standing, claim));
    }

    // ---- peace

    public boolean isPeacePossible() {
        return land.count(now.standing) > 0;
    }

    public int peaces() {
        return land.count(now.standing);
    }

    public int peacesWith(int claim) throws IndexOutOfBoundsException {
        needClaim(claim);
        return land.countWith(now.standing, claim);
    }

    public boolean isPossible(int claim) throws IndexOutOfBoundsException {
        needClaim(claim);
        return land.countWith(now.standing, claim) > 0;
    }

    public boolean isSettled(int claim) throws IndexOutOfBoundsException, IllegalStateException {
        needClaim(claim);
        needPeace();
        return land.countWith(now.standing, claim) == land.count(now.standing);
    }

    public boolean ridesInPeace(int family) throws IndexOutOfBoundsException, IllegalStateException {
        if (family < 0 || family >= book.families) {
            throw new IndexOutOfBoundsException("there is no such family");
        }
        needPeace();
        return has(land.riders(now.standing), family);
    }

    public int ridersInPeace() throws IllegalStateException {
        needPeace();
        return Integer.bitCount(land.riders(now.standing));
    }

    public int blamedFamily() throws IllegalStateException {
        if (land.count(now.standing) > 0) {
            throw new IllegalStateException("there is a peace");
        }
        for (int family = 0; family < book.families; family++) {
            if (has(web.part(now.standing, 2 * family), 2 * family + 1)) {
                return family;
            }
        }
        return -1;
    }

    // ---- by hand

    public int breakStatement(int statement) throws IndexOutOfBoundsException, IllegalStateException {
        needStatement(statement);
        needStanding(statement);
        now.standing = without(now.standing, statement);
        return Integer.bitCount(now.standing);
    }

    public int renewStatement(int statement) throws IndexOutOfBoundsException, IllegalStateException {
        needStatement(statement);
        if (has(now.standing, statement)) {
            throw new IllegalStateException("the statement stands");
        }
        now.standing = with(now.standing, statement);
        return Integer.bitCount(now.standing);
    }

    // ---- days and what would be

    public int passDays(int days) throws IllegalArgumentException {
        needDays(days);
        int before = now.carriedOut;
        judge.letPass(now, days);
        return now.carriedOut - before;
    }

    public int standingAfter(int days) throws IllegalArgumentException {
        needDays(days);
        trial.copyFrom(now);
        judge.letPass(trial, days);
        return Integer.bitCount(trial.standing);
    }

    public int peacesAfter(int days) throws IllegalArgumentException {
        needDays(days);
        trial.copyFrom(now);
        judge.letPass(trial, days);
        return land.count(trial.standing);
    }

    public int daysUntilPeace() {
        trial.copyFrom(now);
        for (int days = 0; days < MAX_DAYS; days++) {
            if (land.count(trial.standing) > 0) {
                return days;
            }
            judge.letPass(trial, 1);
        }
        return land.count(trial.standing) > 0 ? MAX_DAYS : -1;
    }

    public int fewestToBreak() {
        return land.fewestNotHolding(now.standing);
    }

    public int mostTellingOath() throws IllegalStateException {
        needPeace();
        if (book.families == 0) {
            throw new IllegalStateException("there is no family");
        }
        int best = 0;
        int fewest = 0;
        for (int claim = 0; claim < 2 * book.families; claim++) {
            int count = land.countWith(now.standing, claim);
            if (count > 0 && (fewest == 0 || count < fewest)) {
                best = claim;
                fewest = count;
            }
        }
        return best;
    }

    public double meanRiders() {
        int count = land.count(now.standing);
        if (count == 0) {
            return 0.0;
        }
        int riders = 0;
        for (int family = 0; family < book.families; family++) {
            riders += land.countWith(now.standing, 2 * family);
        }
        return (double) riders / (double) count;
    }

    public long digest() {
        long d = 947;
        d = d * 31 + book.families;
        d = d * 31 + book.statements;
        d = d * 31 + book.orders;
        d = d * 31 + now.day;
        d = d * 31 + now.carriedOut;
        d = d * 31 + tape.length;
        d = d * 31 + Integer.bitCount(now.standing);
        d = d * 31 + web.countParts(now.standing);
        d = d * 31 + land.count(now.standing);
        d = digestStatements(d);
        d = digestClaims(d);
        return digestPeace(d);
    }

    private long digestStatements(long start) {
        long d = start;
        for (int statement = 0; statement < book.statements; statement++) {
            d = d * 31 + book.kind(statement);
            d = d * 31 + book.first(statement);
            d = d * 31 + book.second(statement);
            d = d * 31 + (has(now.standing, statement) ? 1 : 0);
        }
        return d;
    }

    private long digestClaims(long start) {
        long d = start;
        for (int claim = 0; claim < 2 * book.families; claim++) {
            d = d * 31 + Integer.bitCount(web.reach(now.standing, claim));
            d = d * 31 + lowest(web.part(now.standing, claim));
            d = d * 31 + land.countWith(now.standing, claim);
        }
        return d;
    }

    private long digestPeace(long start) {
        long d = start;
        if (land.count(now.standing) == 0) {
            return d;
        }
        int riders = land.riders(now.standing);
        for (int family = 0; family < book.families; family++) {
            d = d * 31 + (has(riders, family) ? 1 : 0);
        }
        return d;
    }

    private void begin() {
        book.copyFrom(draft);
        web.forget();
        land.prepare();
        now.begin(book.statements);
    }

    private void needStatement(int statement) {
        if (statement < 0 || statement >= book.statements) {
            throw new IndexOutOfBoundsException("there is no such statement");
        }
    }

    private void needStanding(int statement) {
        if (!has(now.standing, statement)) {
            throw new IllegalStateException("the statement does not stand");
        }
    }

    private void needClaim(int claim) {
        if (claim < 0 || claim >= 2 * book.families) {
            throw new IndexOutOfBoundsException("there is no such claim");
        }
    }

    private void needPeace() {
        if (land.count(now.standing) == 0) {
            throw new IllegalStateException("there is no peace");
        }
    }

    private void needDays(int days) {
        if (days < 1 || days > MAX_DAYS) {
            throw new IllegalArgumentException("days have to be 1 to 30");
        }
    }

    private static boolean has(int set, int number) {
        return ((set >> number) & 1) != 0;
    }

    private static int with(int set, int number) {
        return set | (1 << number);
    }

    private static int without(int set, int number) {
        return set & ~(1 << number);
    }

    /** The lowest number of a set, or -1 if it is empty. */
    private static int lowest(int set) {
        for (int number = 0; number < 32; number++) {
            if (has(set, number)) {
                return number;
            }
        }
        return -1;
    }

    /** The bytes that wait to be read. */
    private static final class Tape {
        private final byte[] bytes = new byte[MAX_TAPE];
        private int length;

        void append(int four) {
            for (int shift = 24; shift >= 0; shift -= 8) {
                if (length >= 0 && length < bytes.length) {
                    bytes[length] = (byte) (four >> shift);
                    length++;
                }
            }
        }

        /** The byte there, 0 to 255, or -1 behind the end. */
        int at(int position) {
            if (position < 0 || position >= length || position >= bytes.length) {
                return -1;
            }
            return bytes[position] & 255;
        }
    }

    /** The tokens of a tape; the last one is END or NO_TOKEN. */
    private static final class Tokens {
        private final long[] keywords = packKeywords();
        private final int[] kinds = new int[MAX_TOKENS + 1];
        private final int[] starts = new int[MAX_TOKENS + 1];
        /** What a number is, or the packed letters of a name. */
        private final long[] values = new long[MAX_TOKENS + 1];
        private int count;
        /** The first byte that is not read yet. */
        private int next;
        /** The value of the token that was read last. */
        private long value;

        private static long[] packKeywords() {
            long[] packed = new long[KEYWORD_COUNT];
            int word = 0;
            for (int i = 0; i < KEYWORDS.length(); i++) {
                char sign = KEYWORDS.charAt(i);
                if (sign == ' ') {
                    word++;
                } else if (word < packed.length) {
                    packed[word] = pack(packed[word], sign);
                }
            }
            return packed;
        }

        /** Puts a letter or digit behind packed ones: six bits each, so that ten fit. */
        private static long pack(long packed, int sign) {
            int code = isDigit(sign) ? sign - '0' + 27 : sign - 'a' + 1;
            return packed << 6 | code;
        }

        private static boolean isLetter(int sign) {
            return sign >= 'a' && sign <= 'z';
        }

        private static boolean isDigit(int sign) {
            return sign >= '0' && sign <= '9';
        }

        void scan(Tape tape) {
            count = 0;
            next = 0;
            int kind = NOTHING;
            while (count < kinds.length && kind != END && kind != NO_TOKEN) {
                skipBlanks(tape);
                starts[count] = next;
                value = 0;
                kind = readToken(tape);
                kinds[count] = kind;
                values[count] = value;
                count++;
            }
        }

        int kindAt(int token) {
            return token >= 0 && token < count && token < kinds.length ? kinds[token] : NO_TOKEN;
        }

        int startAt(int token) {
            return token >= 0 && token < count && token < starts.length ? starts[token] : 0;
        }

        long valueAt(int token) {
            return token >= 0 && token < count && token < values.length ? values[token] : 0;
        }

        private void skipBlanks(Tape tape) {
            while (next < tape.length && (tape.at(next) == ' ' || tape.at(next) == 10)) {
                next++;
            }
        }

        private int readToken(Tape tape) {
            int sign = tape.at(next);
            if (sign < 0) {
                return END;
            }
            if (count >= MAX_TOKENS) {
                return NO_TOKEN;
            }
            if (isLetter(sign)) {
                return readWord(tape);
            }
            if (isDigit(sign)) {
                return readNumber(tape);
            }
            return readSymbol(tape, sign);
        }

        private int readWord(Tape tape) {
            int start = next;
            while (next < tape.length && (isLetter(tape.at(next)) || isDigit(tape.at(next)))) {
                value = pack(value, tape.at(next));
                next++;
            }
            if (next - start > MAX_WORD) {
                return NO_TOKEN;
            }
            for (int i = 0; i < keywords.length; i++) {
                if (keywords[i] == value) {
                    return FAMILY + i;
                }
            }
            return NAME;
        }

        private int readNumber(Tape tape) {
            int start = next;
            while (next < tape.length && isDigit(tape.at(next))) {
                value = value * 10 + (tape.at(next) - '0');
                next++;
            }
            return next - start > MAX_DIGITS ? NO_TOKEN : NUMBER;
        }

        private int readSymbol(Tape tape, int sign) {
            next++;
            switch (sign) {
                case '<':
                case '>':
                    if (tape.at(next) != '=') {
                        return sign;
                    }
                    next++;
                    return sign == '<' ? LESS_OR_EQUAL : GREATER_OR_EQUAL;
                case '(':
                case ')':
                case '[':
                case ']':
                case ';':
                case ',':
                case '+':
                case '-':
                case '*':
                case '/':
                case '=':
                    return sign;
                default:
                    return NO_TOKEN;
            }
        }
    }

    /**
     * Reads tokens as a book, from left to right. The first error of the names is kept while the
     * reading goes on, since an error of the grammar behind it still goes ahead of it.
     */
    private static final class Reader {
        private final Tokens tokens;
        private final Book draft;
        private final long[] familyNames = new long[MAX_FAMILIES];
        private final long[] statementNames = new long[MAX_STATEMENTS];
        /** The first token that is not taken yet. */
        private int at;
        private int error;
        private int errorToken;

        Reader(Tokens tokens, Book draft) {
            this.tokens = tokens;
            this.draft = draft;
        }

        int read() {
            at = 0;
            error = 0;
            draft.clear();
            boolean right = true;
            for (int n = 0; n < MAX_TOKENS && right && !isNext(END); n++) {
                right = readLine() && take(';');
            }
            if (!right || !isNext(END)) {
                error = NOT_ALLOWED;
                errorToken = at;
            }
            return error;
        }

        int errorPosition() {
            return error == 0 ? -1 : tokens.startAt(errorToken);
        }

        private boolean isNext(int kind) {
            return tokens.kindAt(at) == kind;
        }

        private boolean take(int kind) {
            if (tokens.kindAt(at) != kind) {
                return false;
            }
            at++;
            return true;
        }

        /** Takes what makes the depth greater, if it may be greater. */
        private boolean takeDeeper(int kind, int depth) {
            if (depth >= MAX_DEPTH || tokens.kindAt(at) != kind) {
                return false;
            }
            at++;
            return true;
        }

        private void note(int number) {
            if (error == 0) {
                error = number;
                errorToken = at;
            }
        }

        private static int find(long[] names, int count, long name) {
            for (int i = 0; i < count && i < names.length; i++) {
                if (names[i] == name) {
                    return i;
                }
            }
            return -1;
        }

        private boolean readLine() {
            switch (tokens.kindAt(at)) {
                case FAMILY:
                    return readFamily();
                case PROMISE:
                    return readStatement(PROMISE_KIND, IF, THEN);
                case PACT:
                    return readStatement(PACT_KIND, EITHER, OR);
                case FEUD:
                    return readStatement(FEUD_KIND, NOTHING, WITH);
                case OATH:
                    return readStatement(OATH_KIND, NOTHING, NOTHING);
                case BREAK:
                case RENEW:
                    return readOrder();
                default:
                    return false;
            }
        }

        private boolean readFamily() {
            at++;
            if (!isNext(NAME)) {
                return false;
            }
            long name = tokens.valueAt(at);
            int number = draft.families;
            if (find(familyNames, number, name) >= 0) {
                note(TOLD_AHEAD);
            } else if (number >= 0 && number < familyNames.length) {
                familyNames[number] = name;
                draft.families++;
            } else {
                note(TOO_MANY);
            }
            at++;
            return true;
        }

        /** Reads a statement with a keyword ahead of its claims, and one between them. */
        private boolean readStatement(int kind, int ahead, int between) {
            at++;
            if (!readStatementName() || (ahead != NOTHING && !take(ahead))) {
                return false;
            }
            int first = readClaim();
            if (first < 0) {
                return false;
            }
            int second = first;
            if (between != NOTHING) {
                second = take(between) ? readClaim() : -1;
            }
            if (second < 0) {
                return false;
            }
            draft.addStatement(kind, first, second);
            return true;
        }

        private boolean readStatementName() {
            if (!isNext(NAME)) {
                return false;
            }
            long name = tokens.valueAt(at);
            int number = draft.statements;
            if (find(statementNames, number, name) >= 0) {
                note(TOLD_AHEAD);
            } else if (number >= 0 && number < statementNames.length) {
                statementNames[number] = name;
            } else {
                note(TOO_MANY);
            }
            at++;
            return true;
        }

        /** Reads a name of a list: its number, 0 if it is not told ahead, or -1 if it is no name. */
        private int readKnownName(long[] names, int count) {
            if (tokens.kindAt(at) != NAME) {
                return -1;
            }
            int number = find(names, count, tokens.valueAt(at));
            if (number < 0) {
                note(NOT_TOLD);
            }
            at++;
            return Math.max(number, 0);
        }

        /** Reads a claim: its number, or -1 if there is none. */
        private int readClaim() {
            int family = readKnownName(familyNames, draft.families);
            if (family < 0) {
                return -1;
            }
            if (take(RIDES)) {
                return 2 * family;
            }
            return take(STAYS) ? 2 * family + 1 : -1;
        }

        private boolean readOrder() {
            boolean renews = isNext(RENEW);
            if (draft.orders >= MAX_ORDERS) {
                note(TOO_MANY);
            }
            at++;
            int statement = readKnownName(statementNames, draft.statements);
            if (statement < 0) {
                return false;
            }
            int start = draft.codeLength;
            if (take(WHEN) && !readTest(0)) {
                return false;
            }
            draft.addOrder(renews, statement, start);
            return true;
        }

        private boolean readTest(int depth) {
            if (!readBoth(depth)) {
                return false;
            }
            for (int n = 0; n < MAX_TOKENS && take(OR); n++) {
                if (!readBoth(depth)) {
                    return false;
                }
                draft.addCode(OR, 0, 0);
            }
            return true;
        }

        private boolean readBoth(int depth) {
            if (!readSingle(depth)) {
                return false;
            }
            for (int n = 0; n < MAX_TOKENS && take(AND); n++) {
                if (!readSingle(depth)) {
                    return false;
                }
                draft.addCode(AND, 0, 0);
            }
            return true;
        }

        private boolean readSingle(int depth) {
            switch (tokens.kindAt(at)) {
                case NOT:
                    if (!takeDeeper(NOT, depth) || !readSingle(depth + 1)) {
                        return false;
                    }
                    draft.addCode(NOT, 0, 0);
                    return true;
                case '[':
                    return takeDeeper('[', depth) && readTest(depth + 1) && take(']');
                case POSSIBLE:
                    at++;
                    int possible = readClaim();
                    draft.addCode(POSSIBLE, possible, 0);
                    return possible >= 0;
                case STANDS:
                    at++;
                    int statement = readKnownName(statementNames, draft.statements);
                    draft.addCode(STANDS, statement, 0);
                    return statement >= 0;
                case FOLLOWS:
                    at++;
                    int claim = readClaim();
                    int from = claim >= 0 && take(FROM) ? readClaim() : -1;
                    draft.addCode(FOLLOWS, claim, from);
                    return from >= 0;
                default:
                    if (!readSum(depth)) {
                        return false;
                    }
                    int sign = tokens.kindAt(at);
                    if (!isComparison(sign)) {
                        return false;
                    }
                    at++;
                    if (!readSum(depth)) {
                        return false;
                    }
                    draft.addCode(sign, 0, 0);
                    return true;
            }
        }

        private static boolean isComparison(int kind) {
            return kind == '<' || kind == '>' || kind == '='
                    || kind == LESS_OR_EQUAL || kind == GREATER_OR_EQUAL;
        }

        private boolean readSum(int depth) {
            if (!readProduct(depth)) {
                return false;
            }
            for (int n = 0; n < MAX_TOKENS && (isNext('+') || isNext('-')); n++) {
                int sign = tokens.kindAt(at);
                at++;
                if (!readProduct(depth)) {
                    return false;
                }
                draft.addCode(sign, 0, 0);
            }
            return true;
        }

        private boolean readProduct(int depth) {
            if (!readValue(depth)) {
                return false;
            }
            for (int n = 0; n < MAX_TOKENS && (isNext('*') || isNext('/')); n++) {
                int sign = tokens.kindAt(at);
                at++;
                if (!readValue(depth)) {
                    return false;
                }
                draft.addCode(sign, 0, 0);
            }
            return true;
        }

        private boolean readValue(int depth) {
            int kind = tokens.kindAt(at);
            switch (kind) {
                case NUMBER:
                case DAY:
                case STANDING:
                case PARTS:
                case PEACES:
                    draft.addCode(kind, (int) tokens.valueAt(at), 0);
                    at++;
                    return true;
                case '-':
                    if (!takeDeeper('-', depth) || !readValue(depth + 1)) {
                        return false;
                    }
                    draft.addCode(NEGATE, 0, 0);
                    return true;
                case '(':
                    return takeDeeper('(', depth) && readSum(depth + 1) && take(')');
                case MIN:
                case MAX:
                    at++;
                    if (!takeDeeper('(', depth) || !readSum(depth + 1) || !take(',')
                            || !readSum(depth + 1) || !take(')')) {
                        return false;
                    }
                    draft.addCode(kind, 0, 0);
                    return true;
                default:
                    return false;
            }
        }
    }

    /** What is told: how many families, the statements, and the orders with the code of their tests. */
    private static final class Book {
        private int families;
        private int statements;
        private final int[] kinds = new int[MAX_STATEMENTS];
        private final int[] firsts = new int[MAX_STATEMENTS];
        private final int[] seconds = new int[MAX_STATEMENTS];
        /** Of each statement, the two claims of which it says that one holds. */
        private final int[] lefts = new int[MAX_STATEMENTS];
        private final int[] rights = new int[MAX_STATEMENTS];
        private int orders;
        /** Of each order: 1 if it renews, 0 if it breaks. */
        private final int[] verbs = new int[MAX_ORDERS];
        private final int[] targets = new int[MAX_ORDERS];
        /** The code of a test goes from its start up to its end; without a test it is empty. */
        private final int[] codeStarts = new int[MAX_ORDERS];
        private final int[] codeEnds = new int[MAX_ORDERS];
        private int codeLength;
        /** The code of all tests, each operation behind those that make its operands. */
        private final int[] operations = new int[MAX_TOKENS];
        private final int[] firstNumbers = new int[MAX_TOKENS];
        private final int[] secondNumbers = new int[MAX_TOKENS];

        void clear() {
            families = 0;
            statements = 0;
            orders = 0;
            codeLength = 0;
        }

        void copyFrom(Book other) {
            families = other.families;
            statements = other.statements;
            orders = other.orders;
            codeLength = other.codeLength;
            copy(other.kinds, kinds, statements);
            copy(other.firsts, firsts, statements);
            copy(other.seconds, seconds, statements);
            copy(other.lefts, lefts, statements);
            copy(other.rights, rights, statements);
            copy(other.verbs, verbs, orders);
            copy(other.targets, targets, orders);
            copy(other.codeStarts, codeStarts, orders);
            copy(other.codeEnds, codeEnds, orders);
            copy(other.operations, operations, codeLength);
            copy(other.firstNumbers, firstNumbers, codeLength);
            copy(other.secondNumbers, secondNumbers, codeLength);
        }

        private static void copy(int[] source, int[] target, int count) {
            for (int i = 0; i < count && i < source.length && i < target.length; i++) {
                target[i] = source[i];
            }
        }

        private static int entry(int[] row, int index) {
            return index >= 0 && index < row.length ? row[index] : 0;
        }

        void addStatement(int kind, int first, int second) {
            if (statements >= 0 && statements < MAX_STATEMENTS) {
                kinds[statements] = kind;
                firsts[statements] = first;
                seconds[statements] = second;
                lefts[statements] = kind == PROMISE_KIND || kind == FEUD_KIND ? first ^ 1 : first;
                rights[statements] = kind == FEUD_KIND ? second ^ 1 : second;
                statements++;
            }
        }

        /** Adds an order, the test of which is the code that was added from the start on. */
        void addOrder(boolean renews, int statement, int start) {
            if (orders >= 0 && orders < MAX_ORDERS) {
                verbs[orders] = renews ? 1 : 0;
                targets[orders] = statement;
                codeStarts[orders] = start;
                codeEnds[orders] = codeLength;
                orders++;
            }
        }

        void addCode(int operation, int first, int second) {
            if (codeLength >= 0 && codeLength < MAX_TOKENS) {
                operations[codeLength] = operation;
                firstNumbers[codeLength] = first;
                secondNumbers[codeLength] = second;
                codeLength++;
            }
        }

        int kind(int statement) {
            return entry(kinds, statement);
        }

        int first(int statement) {
            return entry(firsts, statement);
        }

        int second(int statement) {
            return entry(seconds, statement);
        }

        int left(int statement) {
            return entry(lefts, statement);
        }

        int right(int statement) {
            return entry(rights, statement);
        }

        boolean renews(int order) {
            return entry(verbs, order) == 1;
        }

        int target(int order) {
            return entry(targets, order);
        }

        int codeStart(int order) {
            return entry(codeStarts, order);
        }

        int codeEnd(int order) {
            return entry(codeEnds, order);
        }

        int operation(int place) {
            return entry(operations, place);
        }

        int firstNumber(int place) {
            return entry(firstNumbers, place);
        }

        int secondNumber(int place) {
            return entry(secondNumbers, place);
        }
    }

    /** What follows from what, by a set of standing statements; kept until another set is asked for. */
    private static final class Web {
        private final Book book;
        /** The claims that follow from each claim by one statement. */
        private final int[] steps = new int[MAX_CLAIMS];
        /** The claims that follow from each claim. */
        private final int[] reaches = new int[MAX_CLAIMS];
        /** How many claims there are. */
        private int claims;
        private int partCount;
        private int seen = -1;

        Web(Book book) {
            this.book = book;
        }

        void forget() {
            seen = -1;
        }

        int reach(int standing, int claim) {
            look(standing);
            return claim >= 0 && claim < reaches.length ? reaches[claim] : 0;
        }

        /** The claims that are of the same part as a claim. */
        int part(int standing, int claim) {
            look(standing);
            return together(claim);
        }

        int countParts(int standing) {
            look(standing);
            return partCount;
        }

        /** How many statements lead from one claim to another, at the fewest; -1 if none do. */
        int distance(int standing, int claim, int from) {
            look(standing);
            int reached = with(0, from);
            for (int count = 0; count <= MAX_CLAIMS; count++) {
                if (has(reached, claim)) {
                    return count;
                }
                reached |= afterOneStep(reached);
            }
            return -1;
        }

        private int afterOneStep(int reached) {
            int after = 0;
            for (int claim = 0; claim < claims && claim < steps.length; claim++) {
                if (has(reached, claim)) {
                    after |= steps[claim];
                }
            }
            return after;
        }

        private void look(int standing) {
            if (standing == seen) {
                return;
            }
            seen = standing;
            claims = 2 * book.families;
            for (int claim = 0; claim < claims && claim < steps.length; claim++) {
                steps[claim] = 0;
            }
            for (int statement = 0; statement < book.statements; statement++) {
                if (has(standing, statement)) {
                    addStep(book.left(statement) ^ 1, book.right(statement));
                    addStep(book.right(statement) ^ 1, book.left(statement));
                }
            }
            close();
            partCount = 0;
            for (int claim = 0; claim < claims; claim++) {
                if (lowest(together(claim)) == claim) {
                    partCount++;
                }
            }
        }

        /** The claims that follow from a claim and from which it follows. */
        private int together(int claim) {
            int part = 0;
            for (int other = 0; other < claims && other < reaches.length; other++) {
                if (has(reaches[other], claim) && claim >= 0 && claim < reaches.length
                        && has(reaches[claim], other)) {
                    part = with(part, other);
                }
            }
            return part;
        }

        private void addStep(int from, int claim) {
            if (from >= 0 && from < steps.length) {
                steps[from] = with(steps[from], claim);
            }
        }

        private void close() {
            int count = Math.min(claims, Math.min(steps.length, reaches.length));
            for (int claim = 0; claim < count; claim++) {
                reaches[claim] = with(steps[claim], claim);
            }
            for (int between = 0; between < count; between++) {
                for (int from = 0; from < count; from++) {
                    if (has(reaches[from], between)) {
                        reaches[from] |= reaches[between];
                    }
                }
            }
        }
    }

    /**
     * The peaces under a set of standing statements; kept until another set is asked for. A peace
     * is a number, in which bit f tells that family f rides; bit p % 64 of the word p / 64 tells
     * whether p is a peace.
     */
    private static final class Peaces {
        private static final int WORDS = 16;
        private static final int FAMILIES_IN_WORD = 6;
        /** For each of the first six families: the numbers of a word in which it rides. */
        private static final long[] RIDES_IN_WORD = {
            0xAAAAAAAAAAAAAAAAL, 0xCCCCCCCCCCCCCCCCL, 0xF0F0F0F0F0F0F0F0L,
            0xFF00FF00FF00FF00L, 0xFFFF0000FFFF0000L, 0xFFFFFFFF00000000L
        };

        private final Book book;
        private final long[] words = new long[WORDS];
        private final long[] narrowed = new long[WORDS];
        /** The words of each statement, one behind the other: the numbers in which it holds. */
        private final long[] rows = new long[MAX_STATEMENTS * WORDS];
        /** How many words are in use: as many as the families need. */
        private int used = 1;
        private int total;
        private int seen = -1;

        Peaces(Book book) {
            this.book = book;
        }

        /** Makes the rows for a book that is new. */
        void prepare() {
            seen = -1;
            used = 1 << Math.max(book.families - FAMILIES_IN_WORD, 0);
            for (int statement = 0; statement < book.statements; statement++) {
                for (int w = 0; w < used; w++) {
                    int place = statement * WORDS + w;
                    if (place >= 0 && place < rows.length) {
                        rows[place] = holds(book.left(statement), w) | holds(book.right(statement), w);
                    }
                }
            }
        }

        int count(int standing) {
            look(standing);
            return total;
        }

        int countWith(int standing, int claim) {
            look(standing);
            int count = 0;
            for (int w = 0; w < used && w < words.length; w++) {
                count += Long.bitCount(words[w] & holds(claim, w));
            }
            return count;
        }

        /** The families that ride in the told peace. */
        int riders(int standing) {
            look(standing);
            for (int w = 0; w < used && w < words.length && w < narrowed.length; w++) {
                narrowed[w] = words[w];
            }
            int riders = 0;
            for (int family = 0; family < book.families; family++) {
                if (narrow(family)) {
                    riders = with(riders, family);
                }
            }
            return riders;
        }

        /**
         * How many standing statements do not hold in that row of rides and stays in which the
         * fewest do not: these have to be broken for a peace. -1 if more than two.
         */
        int fewestNotHolding(int standing) {
            int fewest = 3;
            for (int w = 0; w < used; w++) {
                fewest = Math.min(fewest, fewestNotHoldingIn(w, standing));
            }
            return fewest > 2 ? -1 : fewest;
        }

        private int fewestNotHoldingIn(int w, int standing) {
            long none = allOf(w);
            long oneAtMost = none;
            long twoAtMost = none;
            for (int statement = 0; statement < book.statements; statement++) {
                if (has(standing, statement)) {
                    long row = row(statement, w);
                    twoAtMost = (twoAtMost & row) | oneAtMost;
                    oneAtMost = (oneAtMost & row) | none;
                    none &= row;
                }
            }
            if (none != 0) {
                return 0;
            }
            if (oneAtMost != 0) {
                return 1;
            }
            return twoAtMost != 0 ? 2 : 3;
        }

        /** Keeps the peaces in which the family rides, if there are any. */
        private boolean narrow(int family) {
            long some = 0;
            for (int w = 0; w < used && w < narrowed.length; w++) {
                some |= narrowed[w] & holds(2 * family, w);
            }
            if (some == 0) {
                return false;
            }
            for (int w = 0; w < used && w < narrowed.length; w++) {
                narrowed[w] &= holds(2 * family, w);
            }
            return true;
        }

        private void look(int standing) {
            if (standing == seen) {
                return;
            }
            seen = standing;
            total = 0;
            for (int w = 0; w < used && w < words.length; w++) {
                long rest = allOf(w);
                for (int statement = 0; statement < book.statements; statement++) {
                    if (has(standing, statement)) {
                        rest &= row(statement, w);
                    }
                }
                words[w] = rest;
                total += Long.bitCount(rest);
            }
        }

        /** The numbers of a word in which a statement holds. */
        private long row(int statement, int w) {
            int place = statement * WORDS + w;
            return place >= 0 && place < rows.length ? rows[place] : 0L;
        }

        /** The numbers of a used word that tell of no more families than there are. */
        private long allOf(int w) {
            if (book.families >= FAMILIES_IN_WORD) {
                return -1L;
            }
            return w == 0 ? (1L << (1 << book.families)) - 1 : 0L;
        }

        /** The numbers of a word in which a claim holds. */
        private static long holds(int claim, int w) {
            int family = claim >> 1;
            long rides;
            if (family >= 0 && family < RIDES_IN_WORD.length) {
                rides = RIDES_IN_WORD[family];
            } else {
                rides = has(w, family - FAMILIES_IN_WORD) ? -1L : 0L;
            }
            return (claim & 1) == 0 ? rides : ~rides;
        }
    }

    /** How far the days went, which statements stand, and how many orders were carried out. */
    private static final class Course {
        private int day;
        private int standing;
        private int carriedOut;

        void begin(int statements) {
            day = 0;
            standing = (1 << statements) - 1;
            carriedOut = 0;
        }

        void copyFrom(Course other) {
            day = other.day;
            standing = other.standing;
            carriedOut = other.carriedOut;
        }

        void change(int statement, boolean renews) {
            if (has(standing, statement) != renews) {
                standing = renews ? with(standing, statement) : without(standing, statement);
                carriedOut++;
            }
        }
    }

    /** Lets the orders of the book have their turns, and reckons their tests. */
    private static final class Judge {
        private final Book book;
        private final Web web;
        private final Peaces land;
        /** What is reckoned and not used yet; a test that holds is 1, one that does not 0. */
        private final int[] stack = new int[MAX_TOKENS];
        private int height;

        Judge(Book book, Web web, Peaces land) {
            this.book = book;
            this.web = web;
            this.land = land;
        }

        void letPass(Course course, int days) {
            for (int n = 0; n < days; n++) {
                for (int order = 0; order < book.orders; order++) {
                    if (isDue(order, course)) {
                        course.change(book.target(order), book.renews(order));
                    }
                }
                course.day++;
            }
        }

        private boolean isDue(int order, Course course) {
            int start = book.codeStart(order);
            int end = book.codeEnd(order);
            if (start >= end) {
                return true;
            }
            height = 0;
            for (int place = start; place < end; place++) {
                reckon(place, course);
            }
            return pop() != 0;
        }

        private void push(int number) {
            if (height >= 0 && height < stack.length) {
                stack[height] = number;
                height++;
            }
        }

        private int pop() {
            if (height <= 0 || height > stack.length) {
                return 0;
            }
            height--;
            return stack[height];
        }

        private void reckon(int place, Course course) {
            int operation = book.operation(place);
            int first = book.firstNumber(place);
            switch (operation) {
                case NUMBER:
                    push(first);
                    break;
                case DAY:
                    push(course.day);
                    break;
                case STANDING:
                    push(Integer.bitCount(course.standing));
                    break;
                case PARTS:
                    push(web.countParts(course.standing));
                    break;
                case PEACES:
                    push(land.count(course.standing));
                    break;
                case POSSIBLE:
                    push(land.countWith(course.standing, first) > 0 ? 1 : 0);
                    break;
                case STANDS:
                    push(has(course.standing, first) ? 1 : 0);
                    break;
                case FOLLOWS:
                    push(has(web.reach(course.standing, book.secondNumber(place)), first) ? 1 : 0);
                    break;
                case NEGATE:
                    push(-pop());
                    break;
                case NOT:
                    push(pop() == 0 ? 1 : 0);
                    break;
                default:
                    int right = pop();
                    push(combine(operation, pop(), right));
                    break;
            }
        }

        private static int combine(int operation, int left, int right) {
            switch (operation) {
                case '+':
                    return left + right;
                case '-':
                    return left - right;
                case '*':
                    return left * right;
                case '/':
                    return right == 0 ? 0 : left / right;
                case MIN:
                    return Math.min(left, right);
                case MAX:
                    return Math.max(left, right);
                case AND:
                    return left & right;
                case OR:
                    return left | right;
                default:
                    return compare(operation, left, right) ? 1 : 0;
            }
        }

        private static boolean compare(int operation, int left, int right) {
            switch (operation) {
                case '<':
                    return left < right;
                case '>':
                    return left > right;
                case LESS_OR_EQUAL:
                    return left <= right;
                case GREATER_OR_EQUAL:
                    return left >= right;
                default:
                    return left == right;
            }
        }
    }
}
