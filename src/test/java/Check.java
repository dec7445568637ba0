import java.util.ArrayList;
import java.util.List;
import java.util.function.Function;
import java.util.function.Supplier;

/** What the tests share: telling a book to an object, and counting answers that are not as due. */
final class Check {
    private int wrong;
    private int made;

    void same(String call, long got, long due) {
        made++;
        if (got != due) {
            report(call + " answered " + got + ", due is " + due);
        }
    }

    void same(String call, boolean got, boolean due) {
        made++;
        if (got != due) {
            report(call + " answered " + got + ", due is " + due);
        }
    }

    void sameDouble(String call, double got, double due) {
        made++;
        if (Double.compare(got, due) != 0) {
            report(call + " answered " + got + ", due is " + due);
        }
    }

    /** The call has to throw an exception of just this class, and to change nothing of the book. */
    void throwing(String call, Class<? extends RuntimeException> due, FeudBook book, Runnable run) {
        made++;
        long before = book.digest();
        int errorBefore = book.errorAt();
        Class<?> got = null;
        try {
            run.run();
        } catch (RuntimeException e) {
            got = e.getClass();
        }
        if (got != due) {
            report(call + " threw " + got + ", due is " + due);
        }
        if (book.digest() != before || book.errorAt() != errorBefore) {
            report(call + " threw and changed the book");
        }
    }

    void same(String call, List<String> got, List<String> due) {
        made++;
        if (got.equals(due)) {
            return;
        }
        for (int i = 0; i < Math.min(got.size(), due.size()); i++) {
            if (!got.get(i).equals(due.get(i))) {
                report(call + ": " + got.get(i) + ", due is " + due.get(i));
            }
        }
        if (got.size() != due.size()) {
            report(call + ": " + got.size() + " answers, due are " + due.size());
        }
    }

    /** The call has to throw an exception of just this class. */
    void throwsJust(String call, Class<? extends RuntimeException> due, Runnable run) {
        made++;
        Class<?> got = null;
        try {
            run.run();
        } catch (RuntimeException e) {
            got = e.getClass();
        }
        if (got != due) {
            report(call + " threw " + got + ", due is " + due);
        }
    }

    void report(String text) {
        wrong++;
        if (wrong <= 50) {
            System.out.println(text.length() <= 400 ? text
                    : text.substring(0, 150) + " .. " + text.substring(text.length() - 200));
        }
    }

    void finish(String test) {
        System.out.println(test + ": " + made + " answers looked at, " + wrong + " not as due");
        if (wrong != 0) {
            System.exit(1);
        }
    }

    /** Feeds bytes (the signs of the text, 0 to 255) and trims what is fed too much. */
    static void feed(FeudBook book, String text) {
        int due = book.tapeBytes() + text.length();
        for (int at = 0; at < text.length(); at += 20) {
            book.feed(four(text, at), four(text, at + 4), four(text, at + 8),
                    four(text, at + 12), four(text, at + 16));
        }
        if (book.tapeBytes() != due) {
            book.trim(due);
        }
    }

    /** Teaches a text on an empty tape: the error times 10000, and the position of the error. */
    static int teach(FeudBook book, String text) {
        book.trim(0);
        feed(book, text);
        int error = book.teach();
        return error * 10000 + book.errorAt();
    }

    static FeudBook taught(String text) {
        FeudBook book = new FeudBook();
        int answer = teach(book, text);
        if (answer != -1) {
            throw new IllegalStateException("the test's book has an error: " + answer + ": " + text);
        }
        return book;
    }

    private static int four(String text, int from) {
        int number = 0;
        for (int i = from; i < from + 4; i++) {
            number = number << 8 | (i < text.length() ? text.charAt(i) : ' ');
        }
        return number;
    }

    // ---- a look at all of an object

    /** Nothing is promised of an object behind its 512th call: so few are left for what made it. */
    private static final int QUESTIONS_OF_ONE = 300;

    /** A call that changes nothing. */
    static final class Question {
        final String call;
        final Function<FeudBook, Object> ask;

        Question(String call, Function<FeudBook, Object> ask) {
            this.call = call;
            this.ask = ask;
        }

        String answer(FeudBook book) {
            Object answer;
            try {
                answer = ask.apply(book);
            } catch (RuntimeException e) {
                answer = e.getClass().getSimpleName();
            }
            return call + " answered " + answer;
        }
    }

    /**
     * The answers of all calls that change nothing, but for errorAt(); from as many objects of the
     * same state as are needed, so that none gets too many calls.
     */
    static List<String> look(Supplier<FeudBook> state) {
        FeudBook book = state.get();
        List<Question> questions = questions(book.families(), book.statements());
        List<String> answers = new ArrayList<>();
        for (int n = 0; n < questions.size(); n++) {
            if (n > 0 && n % QUESTIONS_OF_ONE == 0) {
                book = state.get();
            }
            answers.add(questions.get(n).answer(book));
        }
        return answers;
    }

    /** All calls that change nothing, of a book with so many families and statements. */
    static List<Question> questions(int families, int statements) {
        List<Question> questions = new ArrayList<>();
        askWhole(questions);
        askDays(questions);
        for (int s = 0; s < statements; s++) {
            askStatement(questions, s);
        }
        for (int f = 0; f < families; f++) {
            int family = f;
            questions.add(new Question("ridesInPeace " + f, b -> b.ridesInPeace(family)));
        }
        for (int c = 0; c < 2 * families; c++) {
            askClaim(questions, c, 2 * families);
        }
        return questions;
    }

    private static void askWhole(List<Question> all) {
        all.add(new Question("families", FeudBook::families));
        all.add(new Question("statements", FeudBook::statements));
        all.add(new Question("orders", FeudBook::orders));
        all.add(new Question("days", FeudBook::days));
        all.add(new Question("ordersCarriedOut", FeudBook::ordersCarriedOut));
        all.add(new Question("tapeBytes", FeudBook::tapeBytes));
        all.add(new Question("standing", FeudBook::standing));
        all.add(new Question("parts", FeudBook::parts));
        all.add(new Question("isPeacePossible", FeudBook::isPeacePossible));
        all.add(new Question("peaces", FeudBook::peaces));
        all.add(new Question("ridersInPeace", FeudBook::ridersInPeace));
        all.add(new Question("blamedFamily", FeudBook::blamedFamily));
        all.add(new Question("daysUntilPeace", FeudBook::daysUntilPeace));
        all.add(new Question("fewestToBreak", FeudBook::fewestToBreak));
        all.add(new Question("mostTellingOath", FeudBook::mostTellingOath));
        all.add(new Question("meanRiders", FeudBook::meanRiders));
        all.add(new Question("digest", FeudBook::digest));
    }

    private static void askDays(List<Question> all) {
        for (int n = 1; n <= 30; n++) {
            int days = n;
            all.add(new Question("standingAfter " + n, b -> b.standingAfter(days)));
            all.add(new Question("peacesAfter " + n, b -> b.peacesAfter(days)));
        }
    }

    private static void askStatement(List<Question> all, int s) {
        all.add(new Question("kindOf " + s, b -> b.kindOf(s)));
        all.add(new Question("firstClaimOf " + s, b -> b.firstClaimOf(s)));
        all.add(new Question("secondClaimOf " + s, b -> b.secondClaimOf(s)));
        all.add(new Question("stands " + s, b -> b.stands(s)));
        all.add(new Question("isNeedless " + s, b -> b.isNeedless(s)));
    }

    private static void askClaim(List<Question> all, int c, int claims) {
        all.add(new Question("whatFollowsFrom " + c, b -> b.whatFollowsFrom(c)));
        all.add(new Question("partOf " + c, b -> b.partOf(c)));
        all.add(new Question("partSize " + c, b -> b.partSize(c)));
        all.add(new Question("peacesWith " + c, b -> b.peacesWith(c)));
        all.add(new Question("isPossible " + c, b -> b.isPossible(c)));
        all.add(new Question("isSettled " + c, b -> b.isSettled(c)));
        for (int f = 0; f < claims; f++) {
            int from = f;
            all.add(new Question("follows " + c + " from " + f, b -> b.follows(c, from)));
            all.add(new Question("fewestStatementsBetween " + c + " from " + f,
                    b -> b.fewestStatementsBetween(c, from)));
        }
    }
}
