/** Promises 4 and 5: which tapes are books, where the errors are, and what tests and sums mean. */
public final class LanguageTest {
    private static final String A = "family a; oath o a rides; ";

    private final Check check = new Check();

    public static void main(String[] args) {
        LanguageTest test = new LanguageTest();
        test.tokens();
        test.grammar();
        test.names();
        test.bounds();
        test.depth();
        test.firstErrorIsTold();
        test.meaning();
        test.numbers();
        test.check.finish("LanguageTest");
    }

    private void wrong(int error, int at, String text) {
        check.same("teach " + text, Check.teach(new FeudBook(), text), error * 10000 + at);
    }

    private void right(String text) {
        check.same("teach " + text, Check.teach(new FeudBook(), text), -1);
    }

    /** The error is at the sign | of the text, which is left away. */
    private void wrongAt(int error, String text) {
        int at = text.indexOf('|');
        wrong(error, at, text.substring(0, at) + text.substring(at + 1));
    }

    /** Whether a test holds on the day 0 of a book with one family, which has sworn to ride. */
    private boolean holds(String test) {
        return Check.taught(A + "break o when " + test + ";").passDays(1) == 1;
    }

    private void tokens() {
        right("");
        right(" \n\n  ");
        right("family a;");
        right("\n family\na\n;\n ");
        right("family abcdefghij;");
        right("family a123456789;family z9;");
        right("family families;family rid;family a1b2;oath promise1 rid rides;");
        right(A + "break o when 12or 3=3;".replace("12or 3", "12=12or 3"));
        right(A + "break o when[day=0]and[day=0]or not[day=1];");
        right(A + "break o when 000000<=999999;");
        wrongAt(1, "family |abcdefghijk;");
        wrongAt(1, "family |a1234567890123456789;");
        wrongAt(1, "|familya;");
        wrongAt(1, "|Family a;");
        wrongAt(1, "family |A;");
        wrongAt(1, "family a|B;");
        wrongAt(1, "family |1a;");
        wrongAt(1, "family a|\t;");
        wrongAt(1, "family a|\r\n;");
        wrongAt(1, "family a|_b;");
        wrongAt(1, "family a; |#");
        wrongAt(1, "family a;|" + (char) 0);
        wrongAt(1, "family a;|" + (char) 128);
        wrongAt(1, "family a;|" + (char) 255);
        wrongAt(1, A + "break o when |1234567 = 1;");
        wrongAt(1, A + "break o when |0000001 = 1;");
        wrongAt(1, A + "break o when 1 < |= 1;");
        wrongAt(1, A + "break o when 1 >|>= 1;");
        wrongAt(1, A + "break o when 1 =|< 1;");
        wrongAt(1, A + "break o when 1 <|> 1;");
        wrongAt(1, A + "break o when 1 =|= 1;");
        wrongAt(1, A + "break o when 1 <=|= 1;");
        wrongAt(1, A + "break o when 1 < 1 |! ;");
        wrongAt(1, A + "break o when 1 < 1 |& 1 = 1;");
        wrongAt(1, A + "break o when |da");
        wrongAt(1, "family |day;");
        wrongAt(1, "family |max;");
        wrongAt(1, "family a; oath |oath a rides;");
    }

    private void grammar() {
        wrongAt(1, "|;");
        wrongAt(1, "|a;");
        wrongAt(1, "|7;");
        wrongAt(1, "family a|");
        wrongAt(1, "family a   |");
        wrongAt(1, "family a \n|");
        wrongAt(1, "family|");
        wrongAt(1, "family |;");
        wrongAt(1, "family a |b;");
        wrongAt(1, "family a;|;");
        wrongAt(1, "family a; promise p |a rides then a rides;");
        wrongAt(1, "family a; promise p if a |then a rides;");
        wrongAt(1, "family a; promise p if a rides |or a rides;");
        wrongAt(1, "family a; promise p if a rides |;");
        wrongAt(1, "family a; promise p if a rides then a rides |then");
        wrongAt(1, "family a; pact p |if a rides or a rides;");
        wrongAt(1, "family a; pact p either a rides |then a rides;");
        wrongAt(1, "family a; pact p either a rides or |;");
        wrongAt(1, "family a; feud p |either a rides with a rides;");
        wrongAt(1, "family a; feud p a rides |or a rides;");
        wrongAt(1, "family a; feud p a rides |;");
        wrongAt(1, "family a; oath p |;");
        wrongAt(1, "family a; oath p a |;");
        wrongAt(1, "family a; oath p a rides |a");
        wrongAt(1, "family a; oath |7 a rides;");
        wrongAt(1, A + "break |;");
        wrongAt(1, A + "break o |if day = 1;");
        wrongAt(1, A + "break o when |;");
        wrongAt(1, A + "break o when day |;");
        wrongAt(1, A + "break o when day = |;");
        wrongAt(1, A + "break o when day = 1 |= 1;");
        wrongAt(1, A + "break o when day = 1 and |;");
        wrongAt(1, A + "break o when day = 1 |1;");
        wrongAt(1, A + "break o when |o;");
        wrongAt(1, A + "break o when stands o |= 1;");
        wrongAt(1, A + "break o when possible a |;");
        wrongAt(1, A + "break o when possible |[a rides];");
        wrongAt(1, A + "break o when follows a rides |a rides;");
        wrongAt(1, A + "break o when follows a rides from a |;");
        wrongAt(1, A + "break o when follows a rides |;");
        wrongAt(1, A + "break o when follows a |;");
        wrongAt(1, A + "break o when follows |;");
        wrongAt(1, A + "break o when follows |from a rides;");
        wrongAt(1, A + "break o when stands |;");
        wrongAt(1, A + "break o when (day |= 1);");
        wrongAt(1, A + "break o when [day = 1|);");
        wrongAt(1, A + "break o when [day |] = 1;");
        wrongAt(1, A + "break o when (|[day = 1]);");
        wrongAt(1, A + "break o when (|not day = 1);");
        wrongAt(1, A + "break o when - |not day = 1;");
        wrongAt(1, A + "break o when min |1, 2 = 1;");
        wrongAt(1, A + "break o when min (1 |) = 1;");
        wrongAt(1, A + "break o when min (1, 2 |, 3) = 1;");
        wrongAt(1, A + "break o when 1 + |* 2 = 1;");
        wrongAt(1, A + "break o when 1 + |+ 2 = 1;");
        wrongAt(1, A + "break o when () = 1;".replace("()", "(|)"));
        wrongAt(1, A + "break o when not |;");
        right(A + "break o when not not day - - - 2 = - (3) * -4;");
        right(A + "break o when [[day = 1]] or not stands o and possible a rides;");
        right(A + "break o when follows a rides from a stays and stands o or day = 1;");
        right(A + "renew o when min(max(1, 2), -day) / standing >= parts - peaces;");
        right(A + "break o;renew o;break o;");
    }

    private void names() {
        wrongAt(2, "family a; family |a;");
        differentNames();
        wrongAt(2, A + "oath |o a rides;");
        wrongAt(2, A + "promise |o if a rides then a rides;");
        wrongAt(2, A + "pact |o either a rides or a rides;");
        wrongAt(2, A + "feud |o a rides with a rides;");
        right("family a; oath a a rides; break a; break a when stands a;");
        right("family o; oath a o rides; family a;");
        wrongAt(3, "oath o |a rides; family a;");
        wrongAt(3, "family a; oath o |b rides; family b;");
        wrongAt(3, "family a; promise o if a rides then |b rides;");
        wrongAt(3, "family a; promise o if |o rides then a rides;");
        wrongAt(3, "family a; pact o either a rides or |b rides;");
        wrongAt(3, "family a; feud o |b rides with c rides;");
        wrongAt(3, "family a; feud o a rides with |c rides;");
        wrongAt(3, "break |o; family a; oath o a rides;");
        wrongAt(3, A + "break |a;");
        wrongAt(3, A + "renew |p;");
        wrongAt(3, A + "break o when stands |a;");
        wrongAt(3, A + "break o when possible |o rides;");
        wrongAt(3, A + "break o when follows |b rides from a rides;");
        wrongAt(3, A + "break o when follows a rides from |b rides;");
        wrongAt(3, A + "break o when stands |p; oath p a rides;");
        right(A + "oath p a rides; break o when stands p;");
    }

    /** Two names are the same only if all of their bytes are. */
    private void differentNames() {
        String signs = "abcdefghijklmnopqrstuvwxyz0123456789";
        for (int place = 0; place < 10; place++) {
            for (int left = 0; left < (place == 0 ? 26 : 36); left++) {
                for (int right = 0; right < (place == 0 ? 26 : 36); right++) {
                    String ahead = "kz0a9kz0a9".substring(0, place);
                    String behind = "z9a0kz9a0k".substring(place + 1);
                    String first = "family " + ahead + signs.charAt(left) + behind;
                    String second = "; family " + ahead + signs.charAt(right) + behind + ";";
                    check.same(first + second, Check.teach(new FeudBook(), first + second),
                            left == right ? 20026 : -1);
                }
            }
        }
        for (int length = 1; length < 10; length++) {
            right("family " + "aaaaaaaaaa".substring(length) + "; family aaaaaaaaaa;");
            right("family a" + "0000000000".substring(length) + "; family a" + "0000000000".substring(length + 1) + ";");
        }
    }

    /** As many families, statements and orders as there may be. */
    static String full() {
        StringBuilder text = new StringBuilder();
        for (int n = 0; n < 10; n++) {
            text.append("family f").append(n).append(';');
        }
        for (int n = 0; n < 20; n++) {
            text.append("oath o").append(n).append(" f").append(n % 10).append(" rides;");
        }
        for (int n = 0; n < 16; n++) {
            text.append(n % 3 == 0 ? "renew" : "break").append(" o").append(n).append(';');
        }
        return text.toString();
    }

    private static String times(String text, int n) {
        return text.repeat(n);
    }

    private void bounds() {
        right(full());
        wrongAt(4, full() + "family |x;");
        wrongAt(2, full() + "family |f3;");
        wrongAt(4, full() + "oath |x f1 rides;");
        wrongAt(4, full() + "feud |x f1 rides with nobody rides;");
        wrongAt(2, full() + "oath |o19 f1 rides;");
        wrongAt(4, full() + "|break o1;");
        wrongAt(4, full() + "|renew nobody;");
        // 11 tokens ahead, 2 for each +1, 4 behind, and 3 for each further order.
        String sum = A + "break o when 1" + times("+1", 191) + "=1;break o;";
        right(sum);
        right(sum + "  \n ");
        wrongAt(1, sum + " |break o;");
        wrongAt(1, sum + " |#");
        wrongAt(1, sum + " |;");
        String odd = A + "break o when 1" + times("+1", 192) + "=1;";
        right(odd);
        wrongAt(1, odd + "break |o;");
        wrongAt(1, odd + "break|");
        // An error of the names ahead of the 401st token is not told.
        wrongAt(1, sum.replace("break o;", "break p;") + " |break o;");
        // 2000 bytes.
        right("family a;" + times(" ", 1991));
        wrongAt(1, "family a;" + times(" ", 1990) + "|a");
        wrong(1, 2000, "family a;" + times("\n", 1985) + "family");
    }

    private void depth() {
        right(A + "break o when " + times("(", 8) + "1" + times(")", 8) + "=1;");
        wrongAt(1, A + "break o when " + times("(", 8) + "|(1" + times(")", 9) + "=1;");
        right(A + "break o when " + times("[", 8) + "1=1" + times("]", 8) + ";");
        wrongAt(1, A + "break o when " + times("[", 8) + "|[1=1" + times("]", 9) + ";");
        right(A + "break o when " + times("-", 8) + "1=1;");
        wrongAt(1, A + "break o when " + times("-", 8) + "|-1=1;");
        right(A + "break o when " + times("not ", 8) + "1=1;");
        wrongAt(1, A + "break o when " + times("not ", 8) + "|not 1=1;");
        right(A + "break o when not[not[-(-(day))=1]];");
        wrongAt(1, A + "break o when not[not[-(-(|-(1)))=1]];");
        wrongAt(1, A + "break o when not[not[-(-(|(1)))=1]];");
        right(A + "break o when not[not[-(-min(1,2))=1]];");
        wrongAt(1, A + "break o when not[not[-(-(min|(1,2)))=1]];");
        wrongAt(1, A + "break o when " + times("max(", 8) + "max|(1,2),2),2);");
        right(A + "break o when max(1,(((((((2))))))))=2 and max((((((((1))))))),2)=2;");
        wrongAt(1, A + "break o when max(1,(((((((|(2)))))))))=2;");
        wrongAt(1, A + "break o when max((((((((|(1)))))))),2)=2;");
        wrongAt(1, A + "break o when max(1,-------|-2)=2;");
        // The depth is less again behind what has ended, and a sign between two values adds none.
        right(A + "break o when " + times("-", 8) + "1" + times("-1", 20) + "=" + times("-", 8) + "1 and "
                + times("not ", 8) + "1=1 or " + times("[", 8) + "1=1" + times("]", 8) + ";");
        right(A + "break o when 1 - (((((((- 1))))))) - - - - - - - - - 1 = 1;");
        wrongAt(1, A + "break o when 1 - (((((((- |- 1)))))));");
    }

    private void firstErrorIsTold() {
        // Error 1 goes ahead of all others, wherever it is.
        wrongAt(1, "family a; family a; oath o b rides; break p; |#");
        wrongAt(1, "family a; family a|");
        // Of the others the one that is most to the left.
        wrongAt(3, "family a; oath o |b rides; family a;");
        wrongAt(2, "family a; family |a; oath o b rides;");
        wrongAt(2, A + "oath |o b rides;");
        wrongAt(4, full() + "|break x when stands x; family f1;");
        wrongAt(2, A + "feud |o b rides with c rides; break x;");
        wrongAt(3, A + "break |x when stands y;");
        // A statement that could not be told twice is still told once.
        wrongAt(2, A + "oath p a rides; oath |p a rides; break p;");
    }

    private void meaning() {
        check.same("day = 0", holds("day = 0"), true);
        check.same("day = 1", holds("day = 1"), false);
        check.same("standing", holds("standing = 1"), true);
        check.same("parts", holds("parts = 2"), true);
        check.same("peaces", holds("peaces = 1"), true);
        check.same("possible", holds("possible a rides"), true);
        check.same("possible", holds("possible a stays"), false);
        check.same("stands", holds("stands o"), true);
        check.same("follows", holds("follows a rides from a stays"), true);
        check.same("follows", holds("follows a stays from a rides"), false);
        check.same("follows", holds("follows a stays from a stays"), true);
        check.same("and or", holds("1 = 1 or 1 = 1 and 1 = 2"), true);
        check.same("and or", holds("1 = 2 and 1 = 1 or 1 = 1"), true);
        check.same("brackets", holds("[1 = 1 or 1 = 1] and 1 = 2"), false);
        check.same("not and", holds("not 1 = 1 and 1 = 2"), false);
        check.same("not or", holds("not 1 = 1 or 1 = 1"), true);
        check.same("not []", holds("not [1 = 1 and 1 = 2]"), true);
        check.same("not not", holds("not not 1 = 1"), true);
        String[] signs = {"<", ">", "=", "<=", ">="};
        String[] due = {"100", "001", "010", "110", "011"};
        for (int sign = 0; sign < 5; sign++) {
            for (int left = 0; left < 3; left++) {
                check.same(left + signs[sign] + 1, holds(left + signs[sign] + 1), due[sign].charAt(left) == '1');
            }
        }
        // In a test the day, the statements and what follows are those of its turn.
        FeudBook book = Check.taught("family a; family b; oath o a rides; oath p a stays;"
                + " break p when peaces = 0 and parts = 3 and standing = 2 and day = 0;"
                + " break o when peaces = 2 and parts = 4 and standing = 1 and not stands p"
                + " and not follows a stays from a rides and day = 0;"
                + " renew p when peaces = 4 and possible a stays and day = 0;"
                + " renew o when not possible a rides and day = 1;");
        check.same("turns", book.passDays(1), 3);
        check.same("turns", book.stands(0), false);
        check.same("turns", book.stands(1), true);
        check.same("turns", book.passDays(1), 1);
        check.same("turns", book.peaces(), 0);
    }

    private void numbers() {
        check.same("products first", holds("2 + 3 * 4 = 14"), true);
        check.same("from the left", holds("10 - 3 - 2 = 5"), true);
        check.same("from the left", holds("100 / 10 / 5 = 2"), true);
        check.same("from the left", holds("7 / 2 * 2 = 6"), true);
        check.same("in brackets", holds("(2 + 3) * 4 = 20"), true);
        check.same("in front", holds("- 2 + 3 = 1"), true);
        check.same("in front", holds("- (2 + 3) = 0 - 5"), true);
        check.same("in front", holds("2 - -3 = 5"), true);
        check.same("in front", holds("--3 = 3"), true);
        check.same("cut towards 0", holds("-7 / 2 = -3"), true);
        check.same("cut towards 0", holds("7 / -2 = -3"), true);
        check.same("cut towards 0", holds("-7 / -2 = 3"), true);
        check.same("by 0", holds("7 / 0 = 0"), true);
        check.same("by 0", holds("-7 / (1 - 1) = 0"), true);
        check.same("min", holds("min(3, -4) = -4"), true);
        check.same("max", holds("max(3, -4) = 3"), true);
        check.same("min of max", holds("min(max(1, 2), max(3, 1)) = 2"), true);
        check.same("zeros ahead", holds("000012 = 12"), true);
        check.same("wraps", holds("999999 * 999999 = - 729 * 1000 * 1000 - 379967"), true);
        check.same("wraps", holds("65536 * 65536 = 0"), true);
        check.same("wraps", holds("65536 * 32768 < 0"), true);
        check.same("wraps", holds("65536 * 32768 - 1 > 0"), true);
        check.same("wraps", holds("-(65536 * 32768) = 65536 * 32768"), true);
        check.same("wraps", holds("65536 * 32767 + 65535 + 1 < 0"), true);
        check.same("lowest by -1", holds("65536 * 32768 / -1 = 65536 * 32768"), true);
        check.same("lowest by 1", holds("65536 * 32768 / 1 = 65536 * 32768"), true);
    }
}
