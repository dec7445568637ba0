/** The errors 2 to 4: at which token, which of them is told, and the last that may be of each kind. */
public final class ErrorsTest {
    private static final String A = "family a; oath o a rides; ";
    private static final String[] KINDS = {"promise NAME if a rides then a rides;",
        "pact NAME either a rides or a rides;", "feud NAME a rides with a rides;", "oath NAME a rides;"};

    private final Check check = new Check();

    public static void main(String[] args) {
        ErrorsTest test = new ErrorsTest();
        test.toldTwice();
        test.notTold();
        test.ofWhichKind();
        test.manyFamilies();
        test.manyStatements();
        test.manyOrders();
        test.error1First();
        test.firstToTheLeft();
        test.smallestAtOneToken();
        test.numberedAsTold();
        test.positionOfLatest();
        test.check.finish("ErrorsTest");
    }

    /** The error is at the sign | of the text, which is left away; without a | there is none. */
    private void due(int error, String marked) {
        int at = marked.indexOf('|');
        String text = marked.replace("|", "");
        FeudBook book = new FeudBook();
        Check.feed(book, text);
        check.same("teach of " + marked, book.teach(), error);
        check.same("errorAt of " + marked, book.errorAt(), at);
    }

    private void right(String text) {
        due(0, text);
    }

    private static String families(int count) {
        StringBuilder text = new StringBuilder();
        for (int n = 0; n < count; n++) {
            text.append("family f").append(n).append(";");
        }
        return text.toString();
    }

    private static String statements(int count) {
        StringBuilder text = new StringBuilder("family a;");
        for (int n = 0; n < count; n++) {
            text.append(KINDS[n % 4].replace("NAME", "s" + n));
        }
        return text.toString();
    }

    private static String orders(int count, String... verbs) {
        StringBuilder text = new StringBuilder(A);
        for (int n = 0; n < count; n++) {
            text.append(verbs[n % verbs.length]).append(" o").append(n % 3 == 0 ? " when day<5;" : ";");
        }
        return text.toString();
    }

    // ---- error 2

    private void toldTwice() {
        due(2, "family a;family |a;");
        for (int n = 1; n < 10; n++) {
            due(2, families(n) + "family |f0;");
            due(2, families(n) + "family |f" + (n - 1) + ";");
            right(families(n) + "family f" + n + ";");
        }
        for (String kind : KINDS) {
            for (String other : KINDS) {
                String first = "family a;" + kind.replace("NAME", "s");
                due(2, first + other.replace("NAME", "|s"));
                right(first + other.replace("NAME", "t"));
                due(2, first + other.replace("NAME", "t") + other.replace("NAME", "|s"));
                due(2, first + other.replace("NAME", "t") + kind.replace("NAME", "|t"));
            }
        }
        for (int n = 1; n < 20; n++) {
            due(2, statements(n) + "oath |s0 a rides;");
            due(2, statements(n) + "oath |s" + (n - 1) + " a rides;");
            right(statements(n) + "oath s" + n + " a rides;");
        }
        // Told ahead is told anywhere ahead; what is told behind is not.
        due(2, A + "break o; renew o; family b; oath |o b rides;");
    }

    // ---- error 3

    private void notTold() {
        due(3, "family a;promise p if |x rides then a rides;");
        due(3, "family a;promise p if a rides then |x rides;");
        due(3, "family a;pact p either |x rides or a rides;");
        due(3, "family a;pact p either a rides or |x rides;");
        due(3, "family a;feud p |x rides with a rides;");
        due(3, "family a;feud p a rides with |x rides;");
        due(3, "family a;oath p |x rides;");
        due(3, A + "break |x;");
        due(3, A + "renew |x;");
        due(3, A + "break |x when day=1;");
        due(3, A + "break o when stands |x;");
        due(3, A + "break o when possible |x rides;");
        due(3, A + "break o when follows |x rides from a rides;");
        due(3, A + "break o when follows a rides from |x rides;");
        due(3, A + "break o when day=1 and [not stands o or stands |x];");
        // Told behind is not told ahead, not even in the same line.
        due(3, "oath o |a rides; family a;");
        due(3, "family a; break |o; oath o a rides;");
        due(3, A + "break o when stands |p; oath p a rides;");
        due(3, "family a; oath o a rides; feud p a rides with |b rides; family b;");
        right("family a; oath o a rides; family b; feud p a rides with b rides; break p when stands p;");
        // Without any family or statement each name is unknown.
        due(3, "oath a |a rides;");
        due(3, "break |a;");
        due(3, "renew |a when day=1;");
        due(3, "family a;break |a;");
    }

    /** A statement can have the name of a family, but is not one; nor is a family a statement. */
    private void ofWhichKind() {
        right("family a;oath a a rides;break a when stands a and possible a rides;");
        right("family a;oath b a rides;family b;oath a b rides;break a;break b;");
        due(3, "family a;oath b a rides;oath c |b rides;");
        due(3, "family a;oath b a rides;break |a;");
        due(3, "family a;oath b a rides;break b when stands |a;");
        due(3, "family a;oath b a rides;break b when possible |b rides;");
        due(3, "family a;oath b a rides;break b when follows |b rides from a rides;");
        due(3, "family a;oath b a rides;break b when follows a rides from |b rides;");
        due(2, "family a;oath a a rides;family |a;");
        due(2, "family a;oath a a rides;oath |a a rides;");
        // All the names of ten families, for statements once more.
        StringBuilder text = new StringBuilder(families(10));
        for (int n = 0; n < 10; n++) {
            text.append("oath f").append(n).append(" f").append(9 - n).append(" stays;");
        }
        right(text.toString());
        due(2, text + "oath |f9 f0 rides;");
    }

    // ---- error 4

    private void manyFamilies() {
        for (int n = 0; n <= 10; n++) {
            right(families(n));
        }
        due(4, families(10) + "family |g;");
        due(4, families(10) + "family |g;family g;family h;");
        due(4, families(10) + "oath o f0 rides;break o;family |g;oath p g rides;");
        due(4, families(9) + "family ff;family |g;");
        // A name that is no new family does not count.
        due(2, families(9) + "family |f0;family g;family h;");
        // Statements and orders are counted for themselves.
        right(LanguageTest.full());
    }

    private void manyStatements() {
        for (int n = 0; n <= 20; n++) {
            right(statements(n));
        }
        for (String kind : KINDS) {
            due(4, statements(20) + kind.replace("NAME", "|x"));
            right(statements(19) + kind.replace("NAME", "x"));
            StringBuilder alike = new StringBuilder("family a;");
            for (int n = 0; n < 20; n++) {
                alike.append(kind.replace("NAME", "k" + n));
            }
            right(alike.toString());
            due(4, alike + kind.replace("NAME", "|x"));
        }
        // The names behind it are looked at later.
        due(4, statements(20) + "oath |x nobody rides;");
        due(4, statements(20) + "pact |x either nobody rides or nobody stays;");
        // A broken one counts as well: an order of the book breaks none while it is read.
        due(4, statements(20) + "break s0;oath |x a rides;");
    }

    private void manyOrders() {
        for (int n = 0; n <= 16; n++) {
            right(orders(n, "break"));
            right(orders(n, "renew"));
            right(orders(n, "break", "renew"));
        }
        for (String last : new String[] {"break", "renew"}) {
            due(4, orders(16, "break") + "|" + last + " o;");
            due(4, orders(16, "renew") + "|" + last + " o;");
            due(4, orders(16, "break", "renew") + "|" + last + " o;");
            due(4, orders(16, "renew", "break", "break") + "|" + last + " o when day=1;");
            due(4, orders(16, "break") + "|" + last + " nobody;");
            due(4, orders(16, "break") + "|" + last + " o; " + last + " o;");
        }
        due(3, orders(15, "break") + "break |nobody;break o;break o;");
    }

    // ---- which error is told

    private void error1First() {
        String[] wrong = {"family a;", "oath o a rides;", "oath p nobody rides;", "break nobody;",
            "break o when stands p;", "feud p nobody stays with nobody rides;"};
        for (String line : wrong) {
            check.same("error of " + line, Check.teach(new FeudBook(), A + line) >= 20000, true);
            due(1, A + line + "|#");
            due(1, A + line + "family|");
            due(1, A + line + "family |;");
            due(1, A + line + "family |abcdefghijk;");
            due(1, A + line + "break o when |1234567=1;");
            due(1, A + line + "break o when ((((((((|(");
            due(1, A + line + "break o when 1=1" + "+1".repeat(150) + "|=");
        }
        due(1, families(10) + "family g;|;");
        due(1, statements(20) + "oath x a rides|");
        due(1, orders(16, "break") + "break |7;");
        due(1, A + "family a;break o when 1" + "+1".repeat(150) + "=|;");
        due(1, A + "family a;break o when 1" + "+1".repeat(192) + "=|1;");
        // Also if it is in the line of the other one, behind it.
        due(1, A + "family a|");
        due(1, A + "family a |a;");
        due(1, A + "oath o a |a;");
        due(1, A + "break x |x;");
        due(1, A + "break x when stands y |=1;");
    }

    private void firstToTheLeft() {
        // Three lines, each with its error: whichever is first is told.
        String[] lines = {"family |a;", "oath |o a rides;", "oath q |x rides;", "break |x;", "renew o when stands |x;"};
        int[] errors = {2, 2, 3, 3, 3};
        for (int first = 0; first < lines.length; first++) {
            for (int second = 0; second < lines.length; second++) {
                for (int third = 0; third < lines.length; third++) {
                    due(errors[first], A + lines[first] + lines[second].replace("|", "") + lines[third].replace("|", ""));
                }
            }
        }
        // In one line: the name of the statement, then the first claim, then the second one.
        due(2, A + "promise |o if x rides then y rides;");
        due(3, A + "promise p if |x rides then y rides;");
        due(3, A + "break |x when stands y;");
        due(3, A + "break o when possible |x rides or stands y;");
        due(3, A + "break o when follows |x rides from y rides;");
        // Error 4 is no exception.
        due(4, families(10) + "family |g;family f0;oath o x rides;");
        due(2, families(10) + "family |f0;family g;");
        due(3, families(10) + "oath o |x rides;family g;");
        due(4, statements(20) + "oath |x a rides;oath s0 a rides;");
        due(4, orders(16, "break") + "|break x;family a;");
        due(3, orders(15, "break") + "break |x;break o;");
        due(2, orders(16, "break") + "family |a;break o;");
        due(4, orders(16, "break") + "|break o;family a;");
    }

    private void smallestAtOneToken() {
        for (int n = 0; n < 10; n++) {
            due(2, families(10) + "family |f" + n + ";");
        }
        for (int n = 0; n < 20; n++) {
            due(2, statements(20) + KINDS[n % 4].replace("NAME", "|s" + n));
        }
        due(2, families(10) + "family |f3;family g;");
    }

    // ---- what a right book tells

    private void numberedAsTold() {
        FeudBook book = Check.taught("family z; oath m z rides; break m when day=1; family y;"
                + " feud b y stays with z rides; renew m; family x; pact a either x rides or y rides;"
                + " break a when day=2; promise c if x stays then z stays;");
        int[][] due = {{3, 0, 0}, {2, 3, 0}, {1, 4, 2}, {0, 5, 1}};
        check.same("families", book.families(), 3);
        check.same("statements", book.statements(), 4);
        check.same("orders", book.orders(), 3);
        check.same("standing", book.standing(), 4);
        for (int s = 0; s < 4; s++) {
            check.same("kindOf " + s, book.kindOf(s), due[s][0]);
            check.same("firstClaimOf " + s, book.firstClaimOf(s), due[s][1]);
            check.same("secondClaimOf " + s, book.secondClaimOf(s), due[s][2]);
            check.same("stands " + s, book.stands(s), true);
        }
        // Orders come to their turn as they are told: m is broken and renewed on the day 1.
        check.same("days 0 and 1", book.passDays(2), 2);
        check.same("stands m", book.stands(0), true);
        // And the other way round it stays broken until the day 2.
        book = Check.taught("family z; oath m z rides; renew m; break m when day=1;");
        check.same("days 0 and 1", book.passDays(2), 1);
        check.same("stands m", book.stands(0), false);
        check.same("day 2", book.passDays(1), 1);
        check.same("stands m", book.stands(0), true);
        // The greatest numbers.
        book = Check.taught(families(10) + "feud x f9 stays with f9 rides;"
                + statements(19).replace("family a;", "").replace(" a ", " f9 "));
        check.same("firstClaimOf 0", book.firstClaimOf(0), 19);
        check.same("secondClaimOf 0", book.secondClaimOf(0), 18);
        check.same("kindOf 19", book.kindOf(19), 2);
        check.same("firstClaimOf 19", book.firstClaimOf(19), 18);
    }

    private void positionOfLatest() {
        FeudBook book = new FeudBook();
        check.same("errorAt at first", book.errorAt(), -1);
        String[] tapes = {"|#", "family a;family |a;", "", "   |#", "family a;", "oath o |b rides;",
            "break |o;", "family a;oath o a rides;", orders(16, "renew") + "|renew o;", " \n "};
        int[] errors = {1, 2, 0, 1, 0, 3, 3, 0, 4, 0};
        for (int n = 0; n < tapes.length; n++) {
            int latest = book.errorAt();
            Check.feed(book, tapes[n].replace("|", ""));
            check.same("errorAt is of the latest teach", book.errorAt(), latest);
            check.same("teach of " + tapes[n], book.teach(), errors[n]);
            check.same("errorAt of " + tapes[n], book.errorAt(), tapes[n].indexOf('|'));
            Check.feed(book, "family a;");
            book.trim(3);
            book.trim(0);
            book.passDays(1);
            check.same("errorAt later", book.errorAt(), tapes[n].indexOf('|'));
        }
    }
}
