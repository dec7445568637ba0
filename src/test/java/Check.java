/** What the tests share: telling a book to an object, and counting answers that are not as due. */
final class Check {
    private int wrong;
    private int made;

    void same(String call, long got, long due) {
        made++;
        if (got != due) {
            report(call + " answered " + got + ", due is " + due);
        }
    }

    void same(String call, boolean got, boolean due) {
        made++;
        if (got != due) {
            report(call + " answered " + got + ", due is " + due);
        }
    }

    void sameDouble(String call, double got, double due) {
        made++;
        if (Double.compare(got, due) != 0) {
            report(call + " answered " + got + ", due is " + due);
        }
    }

    /** The call has to throw an exception of just this class, and to change nothing of the book. */
    void throwing(String call, Class<? extends RuntimeException> due, FeudBook book, Runnable run) {
        made++;
        long before = book.digest();
        int errorBefore = book.errorAt();
        Class<?> got = null;
        try {
            run.run();
        } catch (RuntimeException e) {
            got = e.getClass();
        }
        if (got != due) {
            report(call + " threw " + got + ", due is " + due);
        }
        if (book.digest() != before || book.errorAt() != errorBefore) {
            report(call + " threw and changed the book");
        }
    }

    void report(String text) {
        wrong++;
        if (wrong <= 50) {
            System.out.println(text);
        }
    }

    void finish(String test) {
        System.out.println(test + ": " + made + " answers looked at, " + wrong + " not as due");
        if (wrong != 0) {
            System.exit(1);
        }
    }

    /** Feeds bytes (the signs of the text, 0 to 255) and trims what is fed too much. */
    static void feed(FeudBook book, String text) {
        int due = book.tapeBytes() + text.length();
        for (int at = 0; at < text.length(); at += 20) {
            book.feed(four(text, at), four(text, at + 4), four(text, at + 8),
                    four(text, at + 12), four(text, at + 16));
        }
        if (book.tapeBytes() != due) {
            book.trim(due);
        }
    }

    /** Teaches a text on an empty tape: the error times 10000, and the position of the error. */
    static int teach(FeudBook book, String text) {
        book.trim(0);
        feed(book, text);
        int error = book.teach();
        return error * 10000 + book.errorAt();
    }

    static FeudBook taught(String text) {
        FeudBook book = new FeudBook();
        int answer = teach(book, text);
        if (answer != -1) {
            throw new IllegalStateException("the test's book has an error: " + answer + ": " + text);
        }
        return book;
    }

    private static int four(String text, int from) {
        int number = 0;
        for (int i = from; i < from + 4; i++) {
            number = number << 8 | (i < text.length() ? text.charAt(i) : ' ');
        }
        return number;
    }
}
