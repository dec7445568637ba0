/** The bytes of the tape and its tokens: each byte in each place, and the lengths that may just be, or not. */
public final class TapeTest {
    private static final String A = "family a;oath o a rides;";
    private static final String BLANKS = " ".repeat(2000);
    private static final String[] KEYWORDS = ("family promise if then pact either or feud with oath rides"
            + " stays break renew when day standing parts peaces possible stands follows from not and min"
            + " max").split(" ");
    private static final String LETTERS = "abcdefghijklmnopqrstuvwxyz";
    private static final String DIGITS = "0123456789";
    private static final String SYMBOLS = "()[];,+-*/<>=";

    private final Check check = new Check();

    public static void main(String[] args) {
        TapeTest test = new TapeTest();
        test.atFirstEmpty();
        test.lengthOfTape();
        test.fedBytes();
        test.trimmedBytes();
        test.teachEmpties();
        test.everyByteAlone();
        test.everyByteInAName();
        test.everyByteInASum();
        test.everyByteBehindASign();
        test.blanksBetween();
        test.words();
        test.keywords();
        test.numbers();
        test.endOfTape();
        test.tokens400();
        test.check.finish("TapeTest");
    }

    /** The error is at the sign | of the text, which is left away; without a | there is none. */
    private void due(int error, String marked) {
        int at = marked.indexOf('|');
        String text = at < 0 ? marked : marked.substring(0, at) + marked.substring(at + 1);
        due(error, at, text);
    }

    private void due(int error, int at, String text) {
        FeudBook book = new FeudBook();
        Check.feed(book, text);
        check.same("teach of " + text, book.teach(), error);
        check.same("errorAt of " + text, book.errorAt(), at);
        check.same("tapeBytes behind " + text, book.tapeBytes(), 0);
    }

    private void right(String text) {
        due(0, -1, text);
    }

    // ---- feed, trim, and the length of the tape

    private void atFirstEmpty() {
        FeudBook book = new FeudBook();
        check.same("bytes at first", book.tapeBytes(), 0);
        check.same("teach of nothing", book.teach(), 0);
        check.same("errorAt of nothing", book.errorAt(), -1);
        check.same("trim(0) of nothing", book.trim(0), 0);
    }

    private void lengthOfTape() {
        for (int kept = 0; kept <= 2000; kept++) {
            FeudBook book = new FeudBook();
            Check.feed(book, BLANKS.substring(0, kept));
            check.same("bytes " + kept, book.tapeBytes(), kept);
            if (kept <= 1980) {
                check.same("feed at " + kept, book.feed(0x20202020, 0x20202020, 0x20202020, 0x20202020, 0x20202020),
                        kept + 20);
            } else {
                check.throwing("feed at " + kept, IllegalStateException.class, book,
                        () -> book.feed(0x20202020, 0x20202020, 0x20202020, 0x20202020, 0x20202020));
            }
            check.same("teach", book.teach(), 0);
            check.same("feed behind teach", book.feed(0, 0, 0, 0, 0), 20);
        }
        // The last byte of 2000 is read like any other, and none is read behind it.
        right("family a" + BLANKS.substring(0, 1991) + ";");
        due(1, 1999, "family a;" + BLANKS.substring(0, 1990) + "a");
        due(1, 2000, "family " + BLANKS.substring(0, 1992) + "a");
        due(1, 1999, "family a;" + BLANKS.substring(0, 1990) + (char) 200);
        due(2, 1997, "family a;" + BLANKS.substring(0, 1981) + "family a ;");
    }

    private void fedBytes() {
        int[][] feeds = {{0x66616d69, 0x6c792061, 0x62636465, 0x66676869, 0x3b20200a},
            {0x0a666165, 0x6d696c79, 0x20202020, 0x20202020, 0x20202020}};
        FeudBook book = new FeudBook();
        check.same("feed", book.feed(feeds[0][0], feeds[0][1], feeds[0][2], feeds[0][3], feeds[0][4]), 20);
        check.same("teach of abcdefghi", book.teach(), 0);
        check.same("families", book.families(), 1);
        check.same("feed", book.feed(feeds[1][0], feeds[1][1], feeds[1][2], feeds[1][3], feeds[1][4]), 20);
        check.same("teach of faemily", book.teach(), 1);
        check.same("errorAt of faemily", book.errorAt(), 1);
        // The place of each of the twenty bytes is told by the position of an error.
        for (int place = 0; place < 20; place++) {
            FeudBook other = new FeudBook();
            StringBuilder text = new StringBuilder(BLANKS.substring(0, 20));
            text.setCharAt(place, (char) 255);
            Check.feed(other, "family a; " + BLANKS.substring(0, 10) + text);
            check.same("byte 255 at " + place, other.teach(), 1);
            check.same("errorAt of byte 255 at " + place, other.errorAt(), 20 + place);
        }
        for (int sign = 128; sign < 256; sign++) {
            FeudBook other = new FeudBook();
            other.feed(sign << 24 | 0x202020, 0x20202020, 0x20202020, 0x20202020, 0x20202020);
            check.same("byte " + sign, other.teach(), 1);
            check.same("errorAt of byte " + sign, other.errorAt(), 0);
        }
    }

    private void trimmedBytes() {
        String text = "family a; family b; family c; family d; ";
        for (int kept = 0; kept <= text.length(); kept++) {
            FeudBook book = new FeudBook();
            Check.feed(book, text);
            check.same("trim " + kept, book.trim(kept), kept);
            check.same("bytes behind trim " + kept, book.tapeBytes(), kept);
            boolean whole = kept % 10 == 0 || kept % 10 == 9;
            check.same("teach behind trim " + kept, book.teach(), whole ? 0 : 1);
            check.same("errorAt behind trim " + kept, book.errorAt(),
                    whole ? -1 : kept % 10 < 6 ? kept / 10 * 10 : kept);
            check.same("families behind trim " + kept, book.families(), whole ? (kept + 1) / 10 : 0);
        }
        // What was cut off is not there any more, and what is fed comes behind what was kept.
        FeudBook book = new FeudBook();
        Check.feed(book, text);
        book.trim(10);
        Check.feed(book, "family e; family b;");
        check.same("fed behind trim", book.tapeBytes(), 29);
        check.same("teach", book.teach(), 0);
        check.same("families", book.families(), 3);
        Check.feed(book, BLANKS);
        check.same("trim(2000) of 2000", book.trim(2000), 2000);
        check.throwing("trim(2001) of 2000", IllegalArgumentException.class, book, () -> book.trim(2001));
        check.same("trim(1999) of 2000", book.trim(1999), 1999);
        check.throwing("trim(2000) of 1999", IllegalArgumentException.class, book, () -> book.trim(2000));
        check.same("trim(0) of 1999", book.trim(0), 0);
        check.throwing("trim(1) of 0", IllegalArgumentException.class, book, () -> book.trim(1));
    }

    private void teachEmpties() {
        FeudBook book = new FeudBook();
        String[] tapes = {"family a;", "family", "family a;family a;", "oath o a rides;",
            "family a;oath o a rides;" + "break o;".repeat(17)};
        for (int error = 0; error < tapes.length; error++) {
            Check.feed(book, tapes[error]);
            check.same("teach " + tapes[error], book.teach(), error);
            check.same("tape behind error " + error, book.tapeBytes(), 0);
        }
        check.same("families of before", book.families(), 1);
        check.same("teach of nothing", book.teach(), 0);
        check.same("no families of before", book.families(), 0);
    }

    // ---- bytes

    private void everyByteAlone() {
        for (int sign = 0; sign < 256; sign++) {
            boolean blank = sign == 32 || sign == 10;
            due(blank ? 0 : 1, blank ? -1 : 0, "" + (char) sign);
            // Between two lines, too.
            due(blank ? 0 : 1, blank ? -1 : 9, "family a;" + (char) sign + "family b;");
            due(blank ? 0 : 1, blank ? -1 : 9, "family a;" + (char) sign);
        }
    }

    private void everyByteInAName() {
        for (int n = 0; n < 256; n++) {
            char sign = (char) n;
            boolean letter = LETTERS.indexOf(sign) >= 0;
            boolean digit = DIGITS.indexOf(sign) >= 0;
            boolean blank = n == 32 || n == 10;
            if (letter) {
                right("family " + sign + ";");
            } else {
                due(1, blank ? 8 : 7, "family " + sign + ";");
            }
            if (letter || digit || blank) {
                right("family q" + sign + ";");
            } else {
                due(1, sign == ';' ? 9 : 8, "family q" + sign + ";");
            }
        }
    }

    private void everyByteInASum() {
        String ahead = A + "break o when 1";
        int at = ahead.length();
        for (int n = 0; n < 256; n++) {
            char sign = (char) n;
            String text = ahead + sign + "1=1;";
            if (DIGITS.indexOf(sign) >= 0 || "+-*/".indexOf(sign) >= 0) {
                right(text);
            } else if ("<>=".indexOf(sign) >= 0) {
                due(1, at + 2, text);
            } else if (n == 32 || n == 10) {
                due(1, at + 1, text);
            } else {
                due(1, at, text);
            }
        }
    }

    private void everyByteBehindASign() {
        for (char first : "<>=".toCharArray()) {
            String ahead = A + "break o when 1" + first;
            int at = ahead.length();
            for (int n = 0; n < 256; n++) {
                char sign = (char) n;
                String text = ahead + sign + "1=1;";
                boolean endsLater = DIGITS.indexOf(sign) >= 0 || sign == '-' || n == 32 || n == 10
                        || sign == '=' && first != '=';
                if (sign == '(') {
                    // 1<(1=1; : the sum in ( ) is not ended by a =.
                    due(1, at + 2, text);
                } else {
                    due(1, endsLater ? text.lastIndexOf('=') : at, text);
                }
                String one = ahead + sign + "1;";
                boolean right = DIGITS.indexOf(sign) >= 0 || sign == '-' || n == 32 || n == 10
                        || sign == '=' && first != '=';
                due(right ? 0 : 1, right ? -1 : sign == '(' ? at + 2 : at, one);
            }
        }
    }

    /** Blanks and line ends can stand between two tokens, and have to where one would be read instead. */
    private void blanksBetween() {
        String[] tokens = ("family a ; family b9 ; promise p if a rides then b9 stays ; pact q either a stays or"
                + " b9 rides ; feud f a rides with b9 stays ; oath o a rides ; break o when [ not stands p or"
                + " possible a rides and follows a rides from b9 stays ] and 12 + day * ( 3 - standing ) / 7 <="
                + " min ( parts , - max ( 1 , 2 ) ) and 1 < 2 or 3 > peaces or 4 >= 5 and 6 = 7 ; renew q ;").split(" ");
        for (String between : new String[] {" ", "\n", "  ", "\n\n", " \n ", "\n  \n"}) {
            right(String.join(between, tokens));
            right(between + String.join(between, tokens) + between);
        }
        for (int gap = 1; gap < tokens.length; gap++) {
            StringBuilder text = new StringBuilder();
            for (int n = 0; n < tokens.length; n++) {
                text.append(n == 0 || n == gap ? "" : " ").append(tokens[n]);
            }
            char last = tokens[gap - 1].charAt(tokens[gap - 1].length() - 1);
            char next = tokens[gap].charAt(0);
            boolean word = Character.isLowerCase(tokens[gap - 1].charAt(0));
            boolean number = Character.isDigit(tokens[gap - 1].charAt(0));
            boolean one = word && Character.isLetterOrDigit(next) || number && Character.isDigit(next);
            FeudBook book = new FeudBook();
            check.same("without a blank at " + last + next, Check.teach(book, text.toString()) >= 10000, one);
        }
        // The longest possible token is read.
        right(A + "break o when 1<=2and 3>=2or 4=4;");
        due(1, A + "break o when 1< |=2;");
        due(1, A + "break o when 1>\n|=2;");
        due(1, A + "break o when 12 |3=123;");
        due(1, "|fam ily a;");
        due(1, "family a |b;");
        due(1, A + "break o when |day1=1;");
    }

    // ---- words and numbers

    private void words() {
        for (int length = 1; length <= 40; length++) {
            String word = "z" + "a0".repeat(20).substring(0, length - 1);
            int wrong = length <= 10 ? 0 : 1;
            String mark = length <= 10 ? "" : "|";
            due(wrong, "family " + mark + word + ";");
            due(wrong, "family a;oath " + mark + word + " a rides;");
            due(length <= 10 ? 3 : 1, "oath o |" + word + " rides;");
            due(length <= 10 ? 3 : 1, "break |" + word + ";");
            due(length <= 10 ? 3 : 1, A + "break o when stands |" + word + ";");
            due(1, A + "break o when |" + word + ";");
            due(1, "|" + word + " a;");
        }
        due(1, 0, "a".repeat(2000));
        due(1, 7, "family " + "a".repeat(1993));
        // Too long, though it would begin or end with a keyword or with a name.
        due(1, "|xxxxxxxxxxfamily a;");
        due(1, "|xxxxxxxxxxxfamily a;");
        due(1, "|familyyyyyy a;");
        due(1, "family abcdefghij;oath o |abcdefghijk rides;");
        due(1, "family abcdefghij;oath o |aabcdefghij rides;");
        right("family abcdefghij;oath o abcdefghij rides;");
        due(3, "family abcdefghij;oath o |abcdefghi rides;");
        due(3, "family abcdefghij;oath o |abcdefghik rides;");
    }

    private void keywords() {
        for (String keyword : KEYWORDS) {
            due(1, "family |" + keyword + ";");
            due(1, "family a;oath |" + keyword + " a rides;");
            due(1, "oath o |" + keyword + " rides;");
            due(1, "break |" + keyword + ";");
            due(1, A + "break o when stands |" + keyword + ";");
            // A letter more or less, or a digit, and it is a name.
            right("family " + keyword + "x;");
            right("family x" + keyword + ";");
            right("family " + keyword + "7;");
            boolean keywordStill = false;
            String shorter = keyword.substring(0, keyword.length() - 1);
            for (String other : KEYWORDS) {
                keywordStill |= other.equals(shorter);
            }
            due(keywordStill ? 1 : 0, keywordStill ? 7 : -1, "family " + shorter + ";");
            due(1, 0, keyword.toUpperCase() + " a;");
        }
        for (String name : new String[] {"kind", "claim", "book", "line", "test", "sum", "value", "name", "else",
            "needless", "rides1", "i", "o", "mi", "maxx", "true", "peace", "stand", "ride", "days"}) {
            right("family " + name + ";oath " + name + " " + name + " rides;break " + name + " when stands " + name + ";");
        }
    }

    private void numbers() {
        for (int length = 1; length <= 30; length++) {
            for (String digit : new String[] {"0", "1", "9"}) {
                String number = digit.repeat(length);
                int wrong = length <= 6 ? 0 : 1;
                String mark = length <= 6 ? "" : "|";
                due(wrong, A + "break o when " + mark + number + "=1;");
                due(wrong, A + "break o when 1=" + mark + number + ";");
                due(wrong, A + "break o when min(1,-" + mark + number + ")<2;");
                due(1, "family |" + number + ";");
                due(1, "|" + number);
            }
        }
        due(1, A + "break o when |0000000=0;");
        due(1, A + "break o when |0000001=1;");
        due(1, 0, "7".repeat(2000));
        // Behind six digits a seventh is still of the number, a letter is not.
        due(1, A + "break o when 1=123456|a;");
        right(A + "break o when 1=123456or 1=1;");
        // Too long words and numbers are no tokens; if the grammar is wrong ahead of them, that is told.
        due(1, A + "break o when 1 |1 1234567;");
        due(1, A + "break o when 1 = 1 + |1234567 1 1;");
    }

    // ---- the end of the tape, and the 401st token

    private void endOfTape() {
        String book = A + "break o when not [ day + 1 < min ( 2 , - 3 ) ] and follows a rides from a stays or"
                + " possible a rides and stands o ;";
        for (int length = 0; length <= book.length(); length++) {
            String text = book.substring(0, length);
            String rest = text.substring(text.lastIndexOf(';') + 1);
            boolean whole = rest.isBlank();
            FeudBook fresh = new FeudBook();
            int got = Check.teach(fresh, text + " ");
            // Where the tape ends within a word, that word may be wrong already.
            boolean betweenTokens = length == book.length() || book.charAt(length) == ' ' || text.endsWith(" ");
            if (whole) {
                check.same("cut at " + length, got, -1);
            } else if (betweenTokens) {
                check.same("cut at " + length + ": " + text, got, 10000 + length + 1);
                due(1, length, text);
            } else {
                check.same("cut at " + length, got / 10000, 1);
            }
        }
        due(1, "family a  \n |");
        due(1, "family|");
        due(1, A + "break o when 1<|");
        due(1, A + "break o when 1<=|");
        due(1, A + "break o when 1=1|");
    }

    private void tokens400() {
        // Each family and a break are three tokens, each oath five; a sum makes them any number.
        for (int pairs = 180; pairs <= 200; pairs++) {
            for (int more = 0; more < 6; more++) {
                for (String last : new String[] {";", "break o;", " ", "#", "(", "1", "abcdefghijk", "1234567"}) {
                    tokens(pairs, more, last);
                }
            }
        }
        // Blanks are no tokens: 400 tokens and blanks behind, to the end of the tape.
        String full = A + "break o when 1" + "+1".repeat(191) + "=1;break o;";
        check.same("a book of 400 tokens", Check.teach(new FeudBook(), full), -1);
        right(full + BLANKS.substring(full.length()));
        due(1, full + "|;");
        due(1, full + "\n\n |family b;");
        due(1, full + "|" + (char) 0);
        due(1, full + BLANKS.substring(full.length() + 1) + "|;");
        // The 401st token is wrong though the 400 ahead of it are no whole book.
        String sum = A + "break o when 1" + "+1".repeat(194);
        due(1, sum + "|=1;");
        due(1, sum + "|");
        due(1, sum + "  |");
        due(1, A + "break o when 1" + "+1".repeat(193) + "=1|;");
        due(1, A + "break o when 1" + "+1".repeat(193) + "=1|+1;");
        due(1, A + "break o when -1" + "+1".repeat(193) + "+|1=1;");
        // Of names, and of too many orders, nothing is told then.
        due(1, "family a;" + "break b;".repeat(132) + "break |b;");
    }

    /** A book with so many +1 and so many - in front in its test, and something behind it. */
    private void tokens(int pairs, int more, String last) {
        String text = A + "break o when " + "-".repeat(more) + "1" + "+1".repeat(pairs) + "=1;";
        // 8 + 3 tokens are ahead of the test, in which each token is of one byte.
        int count = 8 + 3 + more + 1 + 2 * pairs + 3;
        if (count > 400) {
            due(1, (A + "break o when ").length() + 400 - 11, text + last);
            return;
        }
        int end = text.length();
        if (last.equals(" ")) {
            right(text + last);
        } else if (last.equals("break o;")) {
            int left = 400 - count;
            if (left >= 3) {
                right(text + last);
            } else {
                due(1, end + new int[] {0, 6, 7}[left], text + last);
            }
        } else {
            due(1, end, text + last);
        }
    }
}
