/** The example of README.md, word by word; ReadmeTest runs it. */
public class Example {
    public static void main(String[] args) {
        FeudBook book = new FeudBook();
        feed(book, "family ash; family birch;"
                + " promise p if ash rides then birch rides;"
                + " feud f ash rides with birch rides;"
                + " break f when day = 2 and peaces > 0;");
        System.out.println(book.teach());                      // 0
        System.out.println(book.families());                   // 2
        System.out.println(book.peaces());                     // 2
        System.out.println(book.ridesInPeace(0));              // false
        System.out.println(book.follows(1, 0));                // true
        System.out.println(book.fewestStatementsBetween(1, 0)); // 2
        System.out.println(book.peacesAfter(3));               // 3
        System.out.println(book.passDays(3));                  // 1
        System.out.println(book.stands(1));                    // false
        System.out.println(book.renewStatement(1));            // 2
        System.out.println(book.meanRiders());                 // 0.5

        feed(book, "family elm; oath o oak rides;");
        System.out.println(book.teach());                      // 3
        System.out.println(book.errorAt());                    // 19
        System.out.println(book.days());                       // 3
    }

    /** Feeds a text: 20 bytes a call, and cuts off what is too much of the last ones. */
    static void feed(FeudBook book, String text) {
        int length = book.tapeBytes() + text.length();
        for (int at = 0; at < text.length(); at += 20) {
            int[] fours = new int[5];
            for (int i = 0; i < 20; i++) {
                int sign = at + i < text.length() ? text.charAt(at + i) : ' ';
                fours[i / 4] = fours[i / 4] << 8 | sign;
            }
            book.feed(fours[0], fours[1], fours[2], fours[3], fours[4]);
        }
        book.trim(length);
    }
}
