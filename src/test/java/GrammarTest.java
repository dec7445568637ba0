import java.util.Arrays;
import java.util.HashSet;
import java.util.Set;

/**
 * Which tokens can stand behind which: behind each beginning of a book all tokens that there are
 * are tried. And the depth: each row of eight that makes it greater, and each ninth.
 */
public final class GrammarTest {
    private static final String[] TOKENS = ("family promise if then pact either or feud with oath rides stays break"
            + " renew when day standing parts peaces possible stands follows from not and min max"
            + " ( ) [ ] ; , + - * / < > = <= >= o 5 # abcdefghijk 1234567").split(" ");
    private static final String TOLD = "family o ; oath o o rides ; ";
    private static final String LINE = "family promise pact feud oath break renew END";
    private static final String NAME = "o";
    private static final String CLAIM_END = "rides stays";
    private static final String VALUE = "5 day standing parts peaces - ( min max";
    private static final String TEST = "not [ possible stands follows " + VALUE;
    private static final String SIGNS = "+ - * /";
    private static final String COMPARE = "< > = <= >=";

    private final Check check = new Check();
    private long seed = 23;

    public static void main(String[] args) {
        GrammarTest test = new GrammarTest();
        test.lines();
        test.tests();
        test.sums();
        test.depthOfEight();
        test.depthIsLessAgain();
        test.depthOfOneWord();
        test.check.finish("GrammarTest");
    }

    private int below(int n) {
        seed = seed * 6364136223846793005L + 1442695040888963407L;
        return (int) ((seed >>> 33) % n);
    }

    /** Behind a beginning, just these tokens are no error at once; END is the end of the tape. */
    private void next(String beginning, String allowed) {
        Set<String> right = new HashSet<>(Arrays.asList(allowed.split(" ")));
        String ahead = TOLD + beginning + (beginning.isEmpty() ? "" : " ");
        for (String token : TOKENS) {
            FeudBook book = new FeudBook();
            Check.feed(book, ahead + token);
            int error = book.teach();
            boolean wrongHere = error == 1 && book.errorAt() == ahead.length();
            check.same(token + " behind " + beginning, !wrongHere, right.contains(token));
            if (right.contains(token) && !token.equals(";")) {
                check.same("end behind " + beginning + " " + token, error, 1);
                check.same("end behind " + beginning + " " + token, book.errorAt(), ahead.length() + token.length());
            }
            if (token.equals(";") && right.contains(token)) {
                check.same("; behind " + beginning, error == 1, false);
            }
        }
        int end = Check.teach(new FeudBook(), ahead);
        check.same("end behind " + beginning, end != 10000 + ahead.length(), right.contains("END"));
    }

    private void lines() {
        next("", LINE);
        next("family p ;", LINE);
        next("break o ;", LINE);
        next("family", NAME);
        next("family p", ";");
        next("promise", NAME);
        next("promise p", "if");
        next("promise p if", NAME);
        next("promise p if o", CLAIM_END);
        next("promise p if o rides", "then");
        next("promise p if o stays", "then");
        next("promise p if o rides then", NAME);
        next("promise p if o rides then o", CLAIM_END);
        next("promise p if o rides then o stays", ";");
        next("promise p if o rides then o rides", ";");
        next("promise p if o rides then o stays ;", LINE);
        next("pact", NAME);
        next("pact p", "either");
        next("pact p either", NAME);
        next("pact p either o", CLAIM_END);
        next("pact p either o rides", "or");
        next("pact p either o stays", "or");
        next("pact p either o stays or", NAME);
        next("pact p either o stays or o", CLAIM_END);
        next("pact p either o stays or o rides", ";");
        next("pact p either o stays or o stays", ";");
        next("pact p either o stays or o rides ;", LINE);
        next("feud", NAME);
        next("feud p", NAME);
        next("feud p o", CLAIM_END);
        next("feud p o rides", "with");
        next("feud p o stays", "with");
        next("feud p o rides with", NAME);
        next("feud p o rides with o", CLAIM_END);
        next("feud p o rides with o rides", ";");
        next("feud p o rides with o stays", ";");
        next("feud p o rides with o rides ;", LINE);
        next("oath", NAME);
        next("oath p", NAME);
        next("oath p o", CLAIM_END);
        next("oath p o rides", ";");
        next("oath p o stays", ";");
        next("oath p o stays ;", LINE);
        for (String verb : new String[] {"break", "renew"}) {
            next(verb, NAME);
            next(verb + " o", "when ;");
            next(verb + " o when", TEST);
            next(verb + " o when stands o", "and or ;");
            next(verb + " o when stands o ;", LINE);
        }
    }

    private void tests() {
        String when = "renew o when ";
        for (String ahead : new String[] {"", "stands o and ", "stands o or ", "stands o or stands o and not ",
            "not ", "not not "}) {
            String start = when + ahead;
            next((start + "not").trim(), TEST);
            next((start + "[").trim(), TEST);
            next(start + "possible", NAME);
            next(start + "possible o", CLAIM_END);
            next(start + "possible o rides", "and or ;");
            next(start + "possible o stays", "and or ;");
            next(start + "stands", NAME);
            next(start + "stands o", "and or ;");
            next(start + "follows", NAME);
            next(start + "follows o", CLAIM_END);
            next(start + "follows o rides", "from");
            next(start + "follows o stays", "from");
            next(start + "follows o rides from", NAME);
            next(start + "follows o rides from o", CLAIM_END);
            next(start + "follows o rides from o rides", "and or ;");
            next(start + "follows o rides from o stays", "and or ;");
            next(start + "stands o and", TEST);
            next(start + "stands o or", TEST);
            next(start + "5", SIGNS + " " + COMPARE);
            next(start + "5 = 5", SIGNS + " and or ;");
            next(start + "5 = 5 and", TEST);
            next(start + "5 = 5 or", TEST);
            next(start + "[ stands o", "and or ]");
            next(start + "[ stands o and", TEST);
            next(start + "[ stands o or", TEST);
            next(start + "[ stands o ]", "and or ;");
            next(start + "[ 5 = 5", SIGNS + " and or ]");
            next(start + "[ 5 = 5 ]", "and or ;");
            next(start + "[ not 5 = 5", SIGNS + " and or ]");
            next(start + "[ [ 5 = 5 ]", "and or ]");
            next(start + "[ [ 5 = 5 ] ]", "and or ;");
        }
    }

    private void sums() {
        for (String ahead : new String[] {"", "not ", "stands o and "}) {
            String when = "break o when " + ahead;
            for (String value : new String[] {"5", "day", "standing", "parts", "peaces", "( 5 )", "- 5", "- - day",
                "min ( 5 , 5 )", "max ( day , - 5 )", "5 + 5", "5 - - 5", "5 * ( 5 )", "5 / 5", "- min ( 5 , 5 )"}) {
                next(when + value, SIGNS + " " + COMPARE);
                next(when + "5 <= " + value, SIGNS + " and or ;");
                next(when + "( " + value, SIGNS + " )");
                next(when + "5 > ( " + value, SIGNS + " )");
                next(when + "min ( " + value, SIGNS + " ,");
                next(when + "max ( " + value, SIGNS + " ,");
                next(when + "min ( 5 , " + value, SIGNS + " )");
                next(when + "max ( 5 , " + value, SIGNS + " )");
                next(when + "5 < max ( 5 , " + value, SIGNS + " )");
                next(when + "[ 5 = " + value, SIGNS + " and or ]");
            }
            for (String sign : (SIGNS + " " + COMPARE).split(" ")) {
                next(when + "5 " + sign, VALUE);
            }
            for (String sign : SIGNS.split(" ")) {
                next(when + "5 = 5 " + sign, VALUE);
                next(when + "( 5 " + sign, VALUE);
            }
            next(when + "-", VALUE);
            next(when + "(", VALUE);
            next(when + "( (", VALUE);
            next(when + "min", "(");
            next(when + "max", "(");
            next(when + "min (", VALUE);
            next(when + "max (", VALUE);
            next(when + "min ( 5 ,", VALUE);
            next(when + "max ( 5 ,", VALUE);
            next(when + "5 = -", VALUE);
            next(when + "5 = (", VALUE);
            next(when + "5 = min", "(");
            next(when + "5 = max", "(");
        }
    }

    // ---- the depth

    private static final String[] OF_TESTS = {"not ", "[ "};
    private static final String[] OF_VALUES = {"- ", "( ", "min ( ", "max ( ", "min ( 5 , ", "max ( day , "};

    /** What ends the part that was begun so. */
    private static String end(String begin) {
        if (begin.startsWith("[")) {
            return " ]";
        }
        if (begin.startsWith("(") || begin.endsWith(", ")) {
            return " )";
        }
        return begin.endsWith("( ") ? " , 5 )" : "";
    }

    /** Rows of eight that make the depth greater, those of tests ahead; and behind each a ninth. */
    private void depthOfEight() {
        for (int n = 0; n < 4000; n++) {
            int tests = n % 9;
            StringBuilder begin = new StringBuilder();
            StringBuilder endOfTests = new StringBuilder();
            StringBuilder endOfValues = new StringBuilder();
            for (int i = 0; i < 8; i++) {
                String one = i < tests ? OF_TESTS[below(2)] : OF_VALUES[below(6)];
                (i < tests ? endOfTests : endOfValues).insert(0, end(one));
                begin.append(one);
            }
            String compared = endOfValues + " = 5" + endOfTests;
            String when = TOLD + "break o when ";
            check.same("depth 8: " + begin, Check.teach(new FeudBook(), when + begin + "5" + compared + " ;"), -1);
            if (tests == 8) {
                for (String ninth : OF_TESTS) {
                    tooDeep(when + begin, ninth, "5 = 5" + end(ninth) + endOfTests + " ;");
                }
            }
            for (String ninth : OF_VALUES) {
                tooDeep(when + begin, ninth, "5" + end(ninth) + compared + " ;");
            }
        }
    }

    /** The error is at the sign that would make the depth 9: of min and max, at the ( behind it. */
    private void tooDeep(String ahead, String ninth, String behind) {
        int at = ahead.length() + Math.max(ninth.indexOf('('), 0);
        check.same("depth 9: " + ahead + ninth, Check.teach(new FeudBook(), ahead + ninth + behind), 10000 + at);
    }

    /** Behind what made it greater the depth is what it was ahead. */
    private void depthIsLessAgain() {
        String when = TOLD + "break o when ";
        String seven = "- ".repeat(7);
        for (String one : OF_VALUES) {
            String whole = one + "5" + end(one);
            for (String sign : "+ - * / < = >=".split(" ")) {
                String compared = sign.equals("<") || sign.equals("=") || sign.equals(">=") ? "" : " = 5";
                right(when + seven + whole + " " + sign + " " + seven + whole + compared + " ;");
                int at = (when + seven + whole + " " + sign + " " + seven + "- ").length();
                wrong(at + Math.max(one.indexOf('('), 0),
                        when + seven + whole + " " + sign + " " + seven + "- " + whole + compared + " ;");
            }
            right(when + "min ( " + "( ".repeat(6) + whole + " )".repeat(6) + " , " + "( ".repeat(6) + whole
                    + " )".repeat(6) + " ) = " + seven + whole + " ;");
        }
        for (String one : OF_TESTS) {
            String whole = one + "5 = 5" + end(one);
            for (String sign : new String[] {" and ", " or "}) {
                String nots = "not ".repeat(7);
                right(when + nots + whole + sign + nots + whole + sign + nots + whole + " ;");
                wrong((when + nots + whole + sign + nots + "not ").length(),
                        when + nots + whole + sign + nots + "not " + whole + " ;");
                String brackets = "[ ".repeat(7);
                String ends = " ]".repeat(7);
                right(when + brackets + whole + sign + whole + ends + sign + brackets + whole + ends + " ;");
                wrong((when + brackets + whole + sign + "[ ").length(),
                        when + brackets + whole + sign + "[ " + whole + " ]" + ends + " ;");
            }
        }
        // Each order begins with the depth 0, and a - between two values adds none.
        right(TOLD + "break o when " + "( ".repeat(8) + "1" + " )".repeat(8) + " = 1 ; renew o when "
                + "( ".repeat(8) + "1" + " )".repeat(8) + " = 1 ;");
        right(when + "( ".repeat(8) + "1 - 1 - 1 - 1" + " )".repeat(8) + " - 1 - 1 = 1 ;");
        // The comparison is in the not, and so are both of its sums.
        wrong((when + "not ".repeat(7) + "1 = - ").length(), when + "not ".repeat(7) + "1 = - - 1 ;");
        right(when + "not ".repeat(7) + "1 = - 1 ;");
        // What is behind an and is not in the not that is ahead of the first one.
        right(when + "not ".repeat(8) + "1 = 1 and 1 = " + "- ".repeat(8) + "1 ;");
    }

    /** The depth may be 8 of each kind alone; and a 9th that is never ended is told at once. */
    private void depthOfOneWord() {
        String when = TOLD + "break o when ";
        for (String one : new String[] {"not ", "[ ", "- ", "( "}) {
            for (int n = 1; n <= 30; n++) {
                String text = when + one.repeat(n);
                wrong(n <= 8 ? text.length() : when.length() + 8 * one.length(), text);
            }
        }
        for (String one : new String[] {"min ( ", "max ( "}) {
            for (int n = 1; n <= 30; n++) {
                String text = when + one.repeat(n);
                wrong(n <= 8 ? text.length() : when.length() + 8 * one.length() + 4, text);
            }
        }
        for (int n = 1; n <= 180; n++) {
            String text = when + "(".repeat(n) + "1" + ")".repeat(n) + "=1;";
            if (n <= 8) {
                right(text);
            } else {
                wrong(when.length() + 8, text);
            }
        }
    }

    private void right(String text) {
        check.same("teach of " + text, Check.teach(new FeudBook(), text), -1);
    }

    private void wrong(int at, String text) {
        check.same("teach of " + text, Check.teach(new FeudBook(), text), 10000 + at);
    }
}
