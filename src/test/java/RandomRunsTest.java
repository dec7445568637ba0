import java.util.ArrayList;
import java.util.List;
import java.util.function.Consumer;
import java.util.function.ToIntFunction;

/** Compares FeudBook with SlowBook on many books, right and wrong ones, made by a fixed row of numbers. */
public final class RandomRunsTest {
    private static final String[] NAMES = {"a", "b", "c", "dd", "e5", "fox", "gnu", "hen", "ibex", "j0123456789".substring(0, 10)};
    private static final String[] WORDS = ("family promise if then pact either or feud with oath rides stays"
            + " break renew when day standing parts peaces possible stands follows from not and min max"
            + " ( ) [ ] ; , + - * / < > = <= >= a b c s0 s1 s2 nobody 7 0 123456 1234567 abcdefghijk A # \t").split(" ");

    /** Nothing is promised of an object behind its 512th call. */
    private static final int CALLS_OF_ONE = 512;

    private final Check check = new Check();
    private long seed;
    private StringBuilder text;
    private int families;
    private int statements;
    private final int[] errors = new int[5];
    /** What the object of a history was told and did so far, and how many calls these are. */
    private final List<ToIntFunction<FeudBook>> past = new ArrayList<>();
    private int pastCalls;
    private FeudBook current;
    private int calls;

    private int below(int n) {
        seed = seed * 6364136223846793005L + 1442695040888963407L;
        return (int) ((seed >>> 33) % n);
    }

    public static void main(String[] args) {
        new RandomRunsTest().run();
    }

    private void run() {
        for (int n = 0; n < 1500; n++) {
            seed = 1000003L * n + 17;
            history(n);
        }
        for (int error = 0; error < 5; error++) {
            if (errors[error] < 30) {
                check.report("only " + errors[error] + " books with the error " + error);
            }
        }
        check.finish("RandomRunsTest");
    }

    /** One object: some books one behind the other, the last one looked at through some days. */
    private void history(int n) {
        past.clear();
        pastCalls = 0;
        current = null;
        SlowBook slow = new SlowBook();
        int books = 1 + below(4);
        for (int b = 0; b < books; b++) {
            teach("run " + n, someTape(), slow);
        }
        compare("run " + n, slow);
        for (int step = 0; step < 4; step++) {
            step("run " + n, slow);
            compare("run " + n + " step " + step, slow);
        }
    }

    /** The object of the history for a call more; made anew if it has had as many as there may be. */
    private FeudBook fast() {
        return fast(1);
    }

    private FeudBook fast(int more) {
        if (current == null || calls + more > CALLS_OF_ONE) {
            current = new FeudBook();
            for (ToIntFunction<FeudBook> act : past) {
                act.applyAsInt(current);
            }
            calls = pastCalls;
        }
        calls += more;
        return current;
    }

    /** Lets the object do something, now and whenever it is made anew. */
    private int act(int more, ToIntFunction<FeudBook> act) {
        int answer = act.applyAsInt(fast(more));
        past.add(act);
        pastCalls += more;
        return answer;
    }

    private void refused(String call, Consumer<FeudBook> run) {
        FeudBook one = fast(5);
        check.throwing(call, IllegalStateException.class, one, () -> run.accept(one));
    }

    /** A book, often with something wrong. */
    private String someTape() {
        String tape = wholeBook();
        int kind = below(6);
        if (kind == 1) {
            tape = tape.substring(0, below(tape.length() + 1));
        } else if (kind == 2 || kind == 3) {
            tape = disturbTokens(tape);
        } else if (kind == 4) {
            int at = below(tape.length() + 1);
            tape = tape.substring(0, at) + (char) below(256) + tape.substring(at);
        }
        return tape.substring(0, Math.min(tape.length(), 2000));
    }

    private void teach(String where, String tape, SlowBook slow) {
        act(3 + (tape.length() + 19) / 20, book -> {
            Check.feed(book, tape);
            return 0;
        });
        check.same(where + " tapeBytes", fast().tapeBytes(), tape.length());
        int due = slow.teach(tape);
        errors[due]++;
        check.same(where + " teach of " + tape, act(1, FeudBook::teach), due);
        check.same(where + " errorAt of " + tape, fast().errorAt(), slow.errorAt);
        check.same(where + " tapeBytes", fast().tapeBytes(), 0);
    }

    private void step(String where, SlowBook slow) {
        if (below(2) == 0 && !slow.statements.isEmpty()) {
            int s = below(slow.statements.size());
            boolean stood = slow.stands[s];
            slow.stands[s] = !stood;
            check.same(where + " by hand " + s,
                    act(1, book -> stood ? book.breakStatement(s) : book.renewStatement(s)), slow.standing());
            return;
        }
        int days = 1 + below(below(8) == 0 ? 30 : 4);
        int before = slow.carriedOut;
        for (int d = 0; d < days; d++) {
            slow.passDay();
        }
        check.same(where + " standingAfter " + days, fast().standingAfter(days), slow.standing());
        check.same(where + " peacesAfter " + days, fast().peacesAfter(days), slow.peaces(slow.stands).size());
        check.same(where + " passDays " + days, act(1, book -> book.passDays(days)), slow.carriedOut - before);
    }

    private void compare(String where, SlowBook slow) {
        List<boolean[]> peaces = slow.peaces(slow.stands);
        check.same(where + " families", fast().families(), slow.families.size());
        check.same(where + " statements", fast().statements(), slow.statements.size());
        check.same(where + " orders", fast().orders(), slow.orders.size());
        check.same(where + " days", fast().days(), slow.day);
        check.same(where + " ordersCarriedOut", fast().ordersCarriedOut(), slow.carriedOut);
        check.same(where + " standing", fast().standing(), slow.standing());
        check.same(where + " parts", fast().parts(), slow.parts());
        check.same(where + " peaces", fast().peaces(), peaces.size());
        check.same(where + " isPeacePossible", fast().isPeacePossible(), !peaces.isEmpty());
        check.same(where + " fewestToBreak", fast().fewestToBreak(), slow.fewestToBreak());
        compareStatements(where, slow, peaces.size());
        compareClaims(where, slow, peaces.size());
        comparePeace(where, slow, peaces);
        compareDays(where, slow);
        check.same(where + " digest", fast().digest(), digest(slow, peaces));
    }

    private void compareStatements(String where, SlowBook slow, int peaces) {
        for (int s = 0; s < slow.statements.size(); s++) {
            int number = s;
            check.same(where + " kindOf " + s, fast().kindOf(s), slow.statements.get(s)[0]);
            check.same(where + " firstClaimOf " + s, fast().firstClaimOf(s), slow.statements.get(s)[1]);
            check.same(where + " secondClaimOf " + s, fast().secondClaimOf(s), slow.statements.get(s)[2]);
            check.same(where + " stands " + s, fast().stands(s), slow.stands[s]);
            if (slow.stands[s]) {
                check.same(where + " isNeedless " + s, fast().isNeedless(s),
                        slow.peaces(slow.without(s)).size() == peaces);
            } else {
                refused(where + " isNeedless " + s, one -> one.isNeedless(number));
            }
        }
    }

    private void compareClaims(String where, SlowBook slow, int peaces) {
        for (int c = 0; c < 2 * slow.families.size(); c++) {
            int claim = c;
            int reached = 0;
            for (int d = 0; d < 2 * slow.families.size(); d++) {
                int other = d;
                int between = slow.between(d, c);
                reached += between >= 0 ? 1 : 0;
                check.same(where + " follows " + d + " from " + c, fast().follows(d, c), between >= 0);
                if (between >= 0) {
                    check.same(where + " between " + d + " from " + c,
                            fast().fewestStatementsBetween(d, c), between);
                } else {
                    refused(where + " between " + d + " from " + c, one -> one.fewestStatementsBetween(other, claim));
                }
            }
            int with = slow.peacesWith(c, slow.stands);
            check.same(where + " whatFollowsFrom " + c, fast().whatFollowsFrom(c), reached);
            check.same(where + " partOf " + c, fast().partOf(c), slow.part(c).get(0));
            check.same(where + " partSize " + c, fast().partSize(c), slow.part(c).size());
            check.same(where + " peacesWith " + c, fast().peacesWith(c), with);
            check.same(where + " isPossible " + c, fast().isPossible(c), with > 0);
            if (peaces > 0) {
                check.same(where + " isSettled " + c, fast().isSettled(c), with == peaces);
            } else {
                refused(where + " isSettled " + c, one -> one.isSettled(claim));
            }
        }
    }

    private void comparePeace(String where, SlowBook slow, List<boolean[]> peaces) {
        if (peaces.isEmpty()) {
            int blamed = 0;
            while (!slow.part(2 * blamed).contains(2 * blamed + 1)) {
                blamed++;
            }
            check.same(where + " blamedFamily", fast().blamedFamily(), blamed);
            refused(where + " ridersInPeace", FeudBook::ridersInPeace);
            refused(where + " mostTellingOath", FeudBook::mostTellingOath);
            check.sameDouble(where + " meanRiders", fast().meanRiders(), 0.0);
            return;
        }
        refused(where + " blamedFamily", FeudBook::blamedFamily);
        int riders = 0;
        for (int f = 0; f < slow.families.size(); f++) {
            riders += peaces.get(0)[f] ? 1 : 0;
            check.same(where + " ridesInPeace " + f, fast().ridesInPeace(f), peaces.get(0)[f]);
        }
        check.same(where + " ridersInPeace", fast().ridersInPeace(), riders);
        long all = 0;
        for (boolean[] peace : peaces) {
            for (boolean rides : peace) {
                all += rides ? 1 : 0;
            }
        }
        check.sameDouble(where + " meanRiders", fast().meanRiders(), (double) all / peaces.size());
        if (slow.families.isEmpty()) {
            refused(where + " mostTellingOath", FeudBook::mostTellingOath);
            return;
        }
        int best = -1;
        for (int c = 0; c < 2 * slow.families.size(); c++) {
            int with = slow.peacesWith(c, slow.stands);
            if (with > 0 && (best < 0 || with < slow.peacesWith(best, slow.stands))) {
                best = c;
            }
        }
        check.same(where + " mostTellingOath", fast().mostTellingOath(), best);
    }

    private void compareDays(String where, SlowBook slow) {
        SlowBook later = slow.copy();
        int until = -1;
        for (int days = 0; days <= 30 && until < 0; days++) {
            if (!later.peaces(later.stands).isEmpty()) {
                until = days;
            }
            later.passDay();
        }
        check.same(where + " daysUntilPeace", fast().daysUntilPeace(), until);
    }

    private static long digest(SlowBook slow, List<boolean[]> peaces) {
        List<Integer> row = new ArrayList<>(List.of(slow.families.size(), slow.statements.size(),
                slow.orders.size(), slow.day, slow.carriedOut, 0, slow.standing(), slow.parts(),
                peaces.size()));
        for (int s = 0; s < slow.statements.size(); s++) {
            for (int number : slow.statements.get(s)) {
                row.add(number);
            }
            row.add(slow.stands[s] ? 1 : 0);
        }
        for (int c = 0; c < 2 * slow.families.size(); c++) {
            int reached = 0;
            for (int d = 0; d < 2 * slow.families.size(); d++) {
                reached += slow.between(d, c) >= 0 ? 1 : 0;
            }
            row.add(reached);
            row.add(slow.part(c).get(0));
            row.add(slow.peacesWith(c, slow.stands));
        }
        if (!peaces.isEmpty()) {
            for (boolean rides : peaces.get(0)) {
                row.add(rides ? 1 : 0);
            }
        }
        long d = 947;
        for (int x : row) {
            d = d * 31 + x;
        }
        return d;
    }

    // ---- making books

    private void put(String token) {
        int blanks = below(12);
        if (text.length() > 0) {
            text.append(blanks == 0 ? "\n" : blanks == 1 ? "  " : " ");
        }
        text.append(token);
    }

    private String wholeBook() {
        text = new StringBuilder();
        families = 0;
        statements = 0;
        int size = below(10) == 0 ? 7 + below(4) : below(7);
        int lines = below(8) == 0 ? 15 + below(10) : below(10);
        int orders = below(10) == 0 ? 12 + below(6) : below(7);
        boolean early = below(4) == 0;
        for (int f = 0; f < size; f++) {
            family();
        }
        for (int s = 0; s < lines; s++) {
            statement();
            if (early && below(3) == 0 && statements > 0) {
                order();
            }
        }
        for (int o = 0; o < orders; o++) {
            order();
        }
        return text.toString();
    }

    private void family() {
        put("family");
        put(below(60) == 0 ? "a" : families < NAMES.length ? NAMES[families] : "more");
        put(";");
        families++;
    }

    private void claim() {
        put(below(150) == 0 || families == 0 ? "nobody" : NAMES[below(Math.min(families, NAMES.length))]);
        put(below(2) == 0 ? "rides" : "stays");
    }

    private void statementName() {
        put(below(100) == 0 || statements == 0 ? "nothing" : "s" + below(statements));
    }

    private void statement() {
        if (families == 0 && below(4) != 0) {
            return;
        }
        int kind = below(below(3) == 0 ? 4 : 3);
        put(new String[] {"promise", "pact", "feud", "oath"}[kind]);
        put(below(80) == 0 ? "s0" : "s" + statements);
        if (kind < 2) {
            put(kind == 0 ? "if" : "either");
        }
        claim();
        if (kind < 3) {
            put(kind == 0 ? "then" : kind == 1 ? "or" : "with");
            claim();
        }
        put(";");
        statements++;
    }

    private void order() {
        put(below(2) == 0 ? "break" : "renew");
        statementName();
        if (below(4) != 0) {
            put("when");
            test(0);
        }
        put(";");
    }

    private void test(int depth) {
        for (int n = 0; n == 0 || below(4) == 0; n++) {
            if (n > 0) {
                put("or");
            }
            both(depth);
        }
    }

    private void both(int depth) {
        for (int n = 0; n == 0 || below(4) == 0; n++) {
            if (n > 0) {
                put("and");
            }
            single(depth);
        }
    }

    private void single(int depth) {
        int kind = below(depth > 3 ? 5 : 8);
        switch (kind) {
            case 0:
                put("possible");
                claim();
                return;
            case 1:
                put("stands");
                statementName();
                return;
            case 2:
                put("follows");
                claim();
                put("from");
                claim();
                return;
            case 5:
                put("not");
                single(depth + 1);
                return;
            case 6:
                put("[");
                test(depth + 1);
                put("]");
                return;
            default:
                sum(depth);
                put(new String[] {"<", ">", "=", "<=", ">="}[below(5)]);
                sum(depth);
        }
    }

    private void sum(int depth) {
        product(depth);
        for (int n = 0; n < 2 && below(3) == 0; n++) {
            put(below(2) == 0 ? "+" : "-");
            product(depth);
        }
    }

    private void product(int depth) {
        value(depth);
        for (int n = 0; n < 2 && below(4) == 0; n++) {
            put(below(2) == 0 ? "*" : "/");
            value(depth);
        }
    }

    private void value(int depth) {
        int kind = below(depth > 3 ? 6 : 9);
        switch (kind) {
            case 0:
                put(below(10) == 0 ? "999999" : "" + below(40));
                return;
            case 1:
                put("" + below(5));
                return;
            case 2:
                put("day");
                return;
            case 3:
                put("standing");
                return;
            case 4:
                put("parts");
                return;
            case 5:
                put("peaces");
                return;
            case 6:
                put("-");
                value(depth + 1);
                return;
            case 7:
                put("(");
                sum(depth + 1);
                put(")");
                return;
            default:
                put(below(2) == 0 ? "min" : "max");
                put("(");
                sum(depth + 1);
                put(",");
                sum(depth + 1);
                put(")");
        }
    }

    private String disturbTokens(String tape) {
        List<String> tokens = new ArrayList<>(List.of(tape.trim().split("[ \n]+")));
        for (int n = 0; n < 1 + below(2) && !tokens.isEmpty(); n++) {
            int at = below(tokens.size());
            switch (below(4)) {
                case 0:
                    tokens.remove(at);
                    break;
                case 1:
                    tokens.add(at, WORDS[below(WORDS.length)]);
                    break;
                case 2:
                    tokens.set(at, WORDS[below(WORDS.length)]);
                    break;
                default:
                    tokens.add(at, tokens.get(below(tokens.size())));
                    break;
            }
        }
        return glue(tokens);
    }

    /** Leaves blanks away here and there, also where the tokens run into one another. */
    private String glue(List<String> tokens) {
        StringBuilder glued = new StringBuilder();
        boolean tight = below(3) == 0;
        for (String token : tokens) {
            glued.append(token).append(tight && below(4) == 0 ? "" : " ");
        }
        return glued.toString();
    }
}
