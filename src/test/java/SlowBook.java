import java.util.ArrayList;
import java.util.Arrays;
import java.util.BitSet;
import java.util.HashMap;
import java.util.HashSet;
import java.util.List;
import java.util.Map;
import java.util.Set;

/**
 * The document once more, in the most literal way, to compare FeudBook with: the grammar is matched
 * in all possible ways, and the peaces are looked through one by one.
 */
final class SlowBook {
    static final Set<String> KEYWORDS = new HashSet<>(Arrays.asList(("family promise if then pact"
            + " either or feud with oath rides stays break renew when day standing parts peaces"
            + " possible stands follows from not and min max").split(" ")));
    private static final List<String> LINES = Arrays.asList("promise", "pact", "feud", "oath");

    List<String> families = new ArrayList<>();
    List<String> names = new ArrayList<>();
    /** Each statement: its kind, its first and its second claim. */
    List<int[]> statements = new ArrayList<>();
    /** Each order: its tokens. */
    List<List<String>> orders = new ArrayList<>();
    boolean[] stands = new boolean[0];
    int day;
    int carriedOut;
    int errorAt = -1;

    // ---- tokens

    private static final class Token {
        final String text;
        final int start;

        Token(String text, int start) {
            this.text = text;
            this.start = start;
        }
    }

    /** A text of its own for what is no token. */
    private static final String BAD = "?";
    private static final String END = "";

    private static List<Token> cut(String tape) {
        List<Token> tokens = new ArrayList<>();
        int at = 0;
        while (true) {
            while (at < tape.length() && (tape.charAt(at) == ' ' || tape.charAt(at) == '\n')) {
                at++;
            }
            if (at == tape.length()) {
                tokens.add(new Token(END, at));
                return tokens;
            }
            String rest = tape.substring(at);
            String token = longest(rest, "[a-z][a-z0-9]*", 10);
            if (token == null) {
                token = longest(rest, "[0-9]+", 6);
            }
            if (token == null) {
                token = longest(rest, "<=|>=|[()\\[\\];,+\\-*/<>=]", 2);
            }
            if (token == null || token.equals(BAD) || tokens.size() == 400) {
                tokens.add(new Token(BAD, at));
                return tokens;
            }
            tokens.add(new Token(token, at));
            at += token.length();
        }
    }

    private static String longest(String rest, String pattern, int most) {
        java.util.regex.Matcher matcher = java.util.regex.Pattern.compile(pattern).matcher(rest);
        if (!matcher.lookingAt()) {
            return null;
        }
        return matcher.group().length() > most ? BAD : matcher.group();
    }

    private static boolean isName(String token) {
        return !token.isEmpty() && Character.isLowerCase(token.charAt(0)) && !KEYWORDS.contains(token);
    }

    private static boolean isNumber(String token) {
        return !token.isEmpty() && Character.isDigit(token.charAt(0));
    }

    // ---- the grammar: which tokens can be behind a thing that begins at a token

    private List<Token> tokens;
    private int furthest;
    private final Map<String, BitSet> known = new HashMap<>();

    private BitSet word(BitSet from, String text) {
        BitSet behind = new BitSet();
        for (int at = from.nextSetBit(0); at >= 0; at = from.nextSetBit(at + 1)) {
            furthest = Math.max(furthest, at);
            String token = tokens.get(at).text;
            boolean fits = text.equals("NAME") ? isName(token)
                    : text.equals("NUMBER") ? isNumber(token) : token.equals(text);
            if (fits) {
                behind.set(at + 1);
            }
        }
        return behind;
    }

    private BitSet all(BitSet from, int depth, String row) {
        BitSet at = from;
        for (String thing : row.split(" ")) {
            at = thing(at, depth, thing);
        }
        return at;
    }

    private static BitSet either(BitSet... sets) {
        BitSet all = new BitSet();
        for (BitSet set : sets) {
            all.or(set);
        }
        return all;
    }

    private BitSet many(BitSet from, int depth, String... rows) {
        BitSet all = (BitSet) from.clone();
        BitSet last = from;
        while (!last.isEmpty()) {
            BitSet next = new BitSet();
            for (String row : rows) {
                next.or(all(last, depth, row));
            }
            next.andNot(all);
            all.or(next);
            last = next;
        }
        return all;
    }

    /** A token the text of which stands there in the grammar, or <thing>; ^ is one deeper. */
    private BitSet thing(BitSet from, int depth, String name) {
        if (name.startsWith("^")) {
            return depth == 8 ? new BitSet() : thing(from, depth + 1, name.substring(1));
        }
        if (!name.startsWith("<") || name.length() <= 2) {
            return word(from, name);
        }
        BitSet all = new BitSet();
        for (int at = from.nextSetBit(0); at >= 0; at = from.nextSetBit(at + 1)) {
            String key = name + depth + ":" + at;
            BitSet behind = known.get(key);
            if (behind == null) {
                BitSet here = new BitSet();
                here.set(at);
                behind = production(here, depth, name);
                known.put(key, behind);
            }
            all.or(behind);
        }
        return all;
    }

    /** Words that make the depth greater are written with ^ as well: they are not taken at 8. */
    private BitSet production(BitSet at, int depth, String name) {
        switch (name) {
            case "<line>":
                return either(all(at, 0, "family NAME"),
                        all(at, 0, "promise NAME if <claim> then <claim>"),
                        all(at, 0, "pact NAME either <claim> or <claim>"),
                        all(at, 0, "feud NAME <claim> with <claim>"),
                        all(at, 0, "oath NAME <claim>"),
                        all(at, 0, "break NAME"), all(at, 0, "break NAME when <test>"),
                        all(at, 0, "renew NAME"), all(at, 0, "renew NAME when <test>"));
            case "<claim>":
                return either(all(at, 0, "NAME rides"), all(at, 0, "NAME stays"));
            case "<test>":
                return many(all(at, depth, "<both>"), depth, "or <both>");
            case "<both>":
                return many(all(at, depth, "<single>"), depth, "and <single>");
            case "<single>":
                return either(deeper(at, depth, "not ^<single>"), deeper(at, depth, "[ ^<test> ]"),
                        all(at, 0, "possible <claim>"), all(at, 0, "stands NAME"),
                        all(at, 0, "follows <claim> from <claim>"), comparison(at, depth));
            case "<sum>":
                return many(all(at, depth, "<product>"), depth, "+ <product>", "- <product>");
            case "<product>":
                return many(all(at, depth, "<value>"), depth, "* <value>", "/ <value>");
            case "<value>":
                return either(word(at, "NUMBER"), word(at, "day"), word(at, "standing"),
                        word(at, "parts"), word(at, "peaces"), deeper(at, depth, "- ^<value>"),
                        deeper(at, depth, "( ^<sum> )"), twoOf(at, depth, "min"),
                        twoOf(at, depth, "max"));
            default:
                throw new IllegalStateException(name);
        }
    }

    private BitSet comparison(BitSet at, int depth) {
        BitSet left = thing(at, depth, "<sum>");
        BitSet sign = new BitSet();
        for (String text : new String[] {"<", ">", "=", "<=", ">="}) {
            sign.or(word(left, text));
        }
        return thing(sign, depth, "<sum>");
    }

    /** A row the first word of which makes the depth greater. */
    private BitSet deeper(BitSet at, int depth, String row) {
        return depth == 8 ? new BitSet() : all(at, depth, row);
    }

    private BitSet twoOf(BitSet at, int depth, String name) {
        BitSet open = word(at, name);
        furthest = open.isEmpty() ? furthest : Math.max(furthest, open.length() - 1);
        return deeper(open, depth, "( ^<sum> , ^<sum> )");
    }

    /** The token of error 1, or -1. */
    private int wrongToken() {
        known.clear();
        furthest = 0;
        BitSet start = new BitSet();
        start.set(0);
        BitSet ends = start;
        BitSet last = start;
        while (!last.isEmpty()) {
            if (last.get(tokens.size() - 1) && tokens.get(tokens.size() - 1).text.equals(END)) {
                return -1;
            }
            BitSet next = word(thing(last, 0, "<line>"), ";");
            next.andNot(ends);
            ends = either(ends, next);
            last = next;
        }
        return furthest;
    }

    // ---- the names

    int teach(String tape) {
        tokens = cut(tape);
        int wrong = wrongToken();
        if (wrong >= 0) {
            errorAt = tokens.get(wrong).start;
            return 1;
        }
        SlowBook fresh = new SlowBook();
        List<String> line = new ArrayList<>();
        for (Token token : tokens) {
            int error = fresh.nameError(line, token.text);
            if (error != 0) {
                errorAt = token.start;
                return error;
            }
            if (token.text.equals(";")) {
                fresh.tell(line);
                line = new ArrayList<>();
            } else {
                line.add(token.text);
            }
        }
        families = fresh.families;
        names = fresh.names;
        statements = fresh.statements;
        orders = fresh.orders;
        stands = new boolean[statements.size()];
        Arrays.fill(stands, true);
        day = 0;
        carriedOut = 0;
        errorAt = -1;
        return 0;
    }

    private int nameError(List<String> line, String token) {
        if (line.isEmpty()) {
            boolean order = token.equals("break") || token.equals("renew");
            return order && orders.size() == 16 ? 4 : 0;
        }
        if (!isName(token)) {
            return 0;
        }
        String before = line.get(line.size() - 1);
        if (before.equals("family")) {
            return families.contains(token) ? 2 : families.size() == 10 ? 4 : 0;
        }
        if (LINES.contains(before)) {
            return names.contains(token) ? 2 : names.size() == 20 ? 4 : 0;
        }
        if (before.equals("break") || before.equals("renew") || before.equals("stands")) {
            return names.contains(token) ? 0 : 3;
        }
        return families.contains(token) ? 0 : 3;
    }

    private void tell(List<String> line) {
        String verb = line.get(0);
        if (verb.equals("family")) {
            families.add(line.get(1));
        } else if (LINES.contains(verb)) {
            List<Integer> claims = new ArrayList<>();
            for (int i = 3; i < line.size(); i++) {
                if (line.get(i).equals("rides") || line.get(i).equals("stays")) {
                    claims.add(claim(line.get(i - 1), line.get(i)));
                }
            }
            names.add(line.get(1));
            statements.add(new int[] {LINES.indexOf(verb), claims.get(0), claims.get(claims.size() - 1)});
        } else {
            orders.add(line);
        }
    }

    private int claim(String family, String verb) {
        return 2 * families.indexOf(family) + (verb.equals("stays") ? 1 : 0);
    }

    // ---- peace

    int standing() {
        int count = 0;
        for (boolean one : stands) {
            count += one ? 1 : 0;
        }
        return count;
    }

    private boolean holds(int claim, boolean[] rides) {
        return rides[claim / 2] == (claim % 2 == 0);
    }

    private boolean holdsAll(boolean[] standing, boolean[] rides) {
        for (int s = 0; s < standing.length; s++) {
            if (standing[s]) {
                boolean first = holds(statements.get(s)[1], rides);
                boolean second = holds(statements.get(s)[2], rides);
                int kind = statements.get(s)[0];
                boolean holds = kind == 0 ? !first || second
                        : kind == 1 ? first || second : kind == 2 ? !(first && second) : first;
                if (!holds) {
                    return false;
                }
            }
        }
        return true;
    }

    /** In the order in which they could be told: the told one first. */
    List<boolean[]> peaces(boolean[] standing) {
        List<boolean[]> all = new ArrayList<>();
        collect(standing, new boolean[families.size()], 0, all);
        return all;
    }

    private void collect(boolean[] standing, boolean[] rides, int family, List<boolean[]> all) {
        if (family == rides.length) {
            if (holdsAll(standing, rides)) {
                all.add(rides.clone());
            }
            return;
        }
        rides[family] = true;
        collect(standing, rides, family + 1, all);
        rides[family] = false;
        collect(standing, rides, family + 1, all);
    }

    int peacesWith(int claim, boolean[] standing) {
        int count = 0;
        for (boolean[] peace : peaces(standing)) {
            count += holds(claim, peace) ? 1 : 0;
        }
        return count;
    }

    boolean[] without(int... broken) {
        boolean[] rest = stands.clone();
        for (int s : broken) {
            rest[s] = false;
        }
        return rest;
    }

    int fewestToBreak() {
        if (!peaces(stands).isEmpty()) {
            return 0;
        }
        int best = -1;
        for (int s = 0; s < stands.length; s++) {
            for (int t = s; t < stands.length; t++) {
                if (stands[s] && stands[t] && !peaces(without(s, t)).isEmpty()) {
                    if (s == t) {
                        return 1;
                    }
                    best = 2;
                }
            }
        }
        return best;
    }

    // ---- what follows

    /** How many statements there are between, one behind the other; -1 if it does not follow. */
    int between(int claim, int from) {
        Set<Integer> reached = new HashSet<>();
        reached.add(from);
        for (int count = 0; ; count++) {
            if (reached.contains(claim)) {
                return count;
            }
            Set<Integer> more = new HashSet<>(reached);
            for (int s = 0; s < stands.length; s++) {
                int[] statement = statements.get(s);
                int x = statement[0] == 0 || statement[0] == 2 ? opposite(statement[1]) : statement[1];
                int y = statement[0] == 2 ? opposite(statement[2]) : statement[2];
                if (stands[s] && reached.contains(opposite(x))) {
                    more.add(y);
                }
                if (stands[s] && reached.contains(opposite(y))) {
                    more.add(x);
                }
            }
            if (more.equals(reached)) {
                return -1;
            }
            reached = more;
        }
    }

    static int opposite(int claim) {
        return claim % 2 == 0 ? claim + 1 : claim - 1;
    }

    List<Integer> part(int claim) {
        List<Integer> part = new ArrayList<>();
        for (int other = 0; other < 2 * families.size(); other++) {
            if (between(other, claim) >= 0 && between(claim, other) >= 0) {
                part.add(other);
            }
        }
        return part;
    }

    int parts() {
        Set<List<Integer>> parts = new HashSet<>();
        for (int claim = 0; claim < 2 * families.size(); claim++) {
            parts.add(part(claim));
        }
        return parts.size();
    }

    // ---- days

    SlowBook copy() {
        SlowBook copy = new SlowBook();
        copy.families = families;
        copy.names = names;
        copy.statements = statements;
        copy.orders = orders;
        copy.stands = stands.clone();
        copy.day = day;
        copy.carriedOut = carriedOut;
        return copy;
    }

    void passDay() {
        for (List<String> order : orders) {
            int statement = names.indexOf(order.get(1));
            boolean renews = order.get(0).equals("renew");
            boolean due = order.size() == 2 || test(order.subList(3, order.size()));
            if (due && stands[statement] != renews) {
                stands[statement] = renews;
                carriedOut++;
            }
        }
        day++;
    }

    /** The last place outside of all brackets at which one of the words is between two things. */
    private static int lastOf(List<String> row, String... words) {
        int depth = 0;
        int place = -1;
        for (int i = 0; i < row.size(); i++) {
            String token = row.get(i);
            depth += token.equals("(") || token.equals("[") ? 1 : 0;
            depth -= token.equals(")") || token.equals("]") ? 1 : 0;
            boolean behindThing = i > 0 && (isName(row.get(i - 1)) || isNumber(row.get(i - 1))
                    || Arrays.asList(")", "]", "day", "standing", "parts", "peaces", "rides", "stays")
                            .contains(row.get(i - 1)));
            if (depth == 0 && behindThing && Arrays.asList(words).contains(token)) {
                place = i;
            }
        }
        return place;
    }

    private boolean test(List<String> row) {
        int or = lastOf(row, "or");
        if (or >= 0) {
            return test(row.subList(0, or)) | test(row.subList(or + 1, row.size()));
        }
        int and = lastOf(row, "and");
        if (and >= 0) {
            return test(row.subList(0, and)) & test(row.subList(and + 1, row.size()));
        }
        switch (row.get(0)) {
            case "not":
                return !test(row.subList(1, row.size()));
            case "[":
                return test(row.subList(1, row.size() - 1));
            case "possible":
                return peacesWith(claim(row.get(1), row.get(2)), stands) > 0;
            case "stands":
                return stands[names.indexOf(row.get(1))];
            case "follows":
                return between(claim(row.get(1), row.get(2)), claim(row.get(4), row.get(5))) >= 0;
            default:
                return compare(row);
        }
    }

    private boolean compare(List<String> row) {
        int sign = lastOf(row, "<", ">", "=", "<=", ">=");
        int left = sum(row.subList(0, sign));
        int right = sum(row.subList(sign + 1, row.size()));
        switch (row.get(sign)) {
            case "<":
                return left < right;
            case ">":
                return left > right;
            case "=":
                return left == right;
            case "<=":
                return left <= right;
            default:
                return left >= right;
        }
    }

    private int sum(List<String> row) {
        int place = lastOf(row, "+", "-");
        if (place < 0) {
            place = lastOf(row, "*", "/");
        }
        if (place >= 0) {
            int left = sum(row.subList(0, place));
            int right = sum(row.subList(place + 1, row.size()));
            switch (row.get(place)) {
                case "+":
                    return left + right;
                case "-":
                    return left - right;
                case "*":
                    return left * right;
                default:
                    return right == 0 ? 0 : (int) ((long) left / right);
            }
        }
        switch (row.get(0)) {
            case "-":
                return -sum(row.subList(1, row.size()));
            case "(":
                return sum(row.subList(1, row.size() - 1));
            case "day":
                return day;
            case "standing":
                return standing();
            case "parts":
                return parts();
            case "peaces":
                return peaces(stands).size();
            case "min":
            case "max":
                List<String> inside = row.subList(2, row.size() - 1);
                int comma = lastOf(inside, ",");
                int left = sum(inside.subList(0, comma));
                int right = sum(inside.subList(comma + 1, inside.size()));
                return row.get(0).equals("min") ? Math.min(left, right) : Math.max(left, right);
            default:
                return Integer.parseInt(row.get(0));
        }
    }
}
