import java.util.ArrayList;
import java.util.List;
import java.util.function.Consumer;
import java.util.function.Supplier;

/**
 * Each call that the document refuses, in each of some states: it throws just the exception that is
 * named first, and behind it the object answers, and goes on, like one that was not asked. And so it
 * does behind each call that only asks.
 */
public final class RefusedTest {
    private static final Class<IndexOutOfBoundsException> NO_SUCH = IndexOutOfBoundsException.class;
    private static final Class<IllegalStateException> NOT_NOW = IllegalStateException.class;
    private static final Class<IllegalArgumentException> BAD_NUMBER = IllegalArgumentException.class;

    /** One peace while o stands; o and p go and come by orders. */
    private static final String HOUSES = "family ann; family bor; family cei;"
            + " promise p if ann rides then bor rides; pact q either bor stays or cei rides;"
            + " feud f ann rides with cei rides; oath o bor rides;"
            + " break o when day = 1; renew o when day = 3; break q when peaces > 2; renew p when day = 7;";
    /** No peace until the order breaks q on the day 4. */
    private static final String TORN = "family a; family b; oath o a rides;"
            + " promise p if b rides then b stays; promise q if b stays then b rides;"
            + " break q when day = 4; renew o;";
    private static final String BLANKS = " ".repeat(2000);

    /** An object in some state, made anew each time it is asked for. */
    private static final class State {
        final String name;
        final Supplier<FeudBook> make;
        /** What the object answers without a refused call, behind each of the ways to go on. */
        final List<List<String>> answers = new ArrayList<>();
        final List<Integer> errors = new ArrayList<>();

        State(String name, Supplier<FeudBook> make) {
            this.name = name;
            this.make = make;
        }
    }

    private final Check check = new Check();
    private final List<Consumer<FeudBook>> waysToGoOn = new ArrayList<>();
    private State state;

    public static void main(String[] args) {
        RefusedTest test = new RefusedTest();
        test.waysToGoOn();
        test.oneState("new", FeudBook::new);
        test.oneState("no family", () -> Check.taught(""));
        test.oneState("no statement", () -> withTape("family a; family b;", "family x;"));
        test.oneState("houses", RefusedTest::houses);
        test.oneState("torn", () -> withTape(TORN, "family a; family a;"));
        test.oneState("all broken", RefusedTest::allBroken);
        test.oneState("as many as can be", RefusedTest::full);
        test.oneState("2000 bytes", () -> withTape(HOUSES, ("family z; oath o z stays;" + BLANKS).substring(0, 2000)));
        test.oneState("1981 bytes", () -> withTape(TORN, (BLANKS + "family y;").substring(28)));
        test.wrongBooks();
        test.questions(FeudBook::new);
        test.questions(RefusedTest::houses);
        test.questions(() -> withTape(TORN, "family a; family a;"));
        test.check.finish("RefusedTest");
    }

    /** What the refused calls could have changed unseen: the tape, the orders, what stands. */
    private void waysToGoOn() {
        waysToGoOn.add(book -> { });
        waysToGoOn.add(FeudBook::teach);
        waysToGoOn.add(book -> book.passDays(6));
        waysToGoOn.add(book -> {
            for (int s = 0; s < book.statements(); s++) {
                if (book.stands(s)) {
                    book.breakStatement(s);
                } else {
                    book.renewStatement(s);
                }
            }
        });
        waysToGoOn.add(book -> {
            book.trim(Math.min(book.tapeBytes(), 9));
            Check.feed(book, "family q; oath q q stays;");
            book.teach();
        });
    }

    private static FeudBook withTape(String told, String tape) {
        FeudBook book = Check.taught(told);
        Check.feed(book, tape);
        return book;
    }

    /** Days went by, one statement is broken by an order and one by hand, and errorAt() is not -1. */
    private static FeudBook houses() {
        FeudBook book = Check.taught(HOUSES);
        book.passDays(2);
        book.breakStatement(0);
        Check.teach(book, "family a; family a;");
        Check.feed(book, "family t; oath t t rides; break t;");
        return book;
    }

    private static FeudBook allBroken() {
        FeudBook book = Check.taught(TORN);
        for (int s = 0; s < 3; s++) {
            book.breakStatement(s);
        }
        return book;
    }

    private static FeudBook full() {
        FeudBook book = Check.taught(LanguageTest.full());
        book.passDays(1);
        return book;
    }

    private void oneState(String name, Supplier<FeudBook> make) {
        state = new State(name, make);
        for (Consumer<FeudBook> way : waysToGoOn) {
            Supplier<FeudBook> gone = () -> goneOn(make.get(), way);
            state.answers.add(Check.look(gone));
            state.errors.add(gone.get().errorAt());
        }
        FeudBook book = make.get();
        refuseTape(book);
        refuseStatements(book);
        refuseClaims(book);
        refusePeace(book);
        for (int days : new int[] {Integer.MIN_VALUE, -30, -1, 0, 31, 32, 1 << 16, Integer.MAX_VALUE}) {
            refuse("passDays " + days, BAD_NUMBER, b -> b.passDays(days));
            refuse("standingAfter " + days, BAD_NUMBER, b -> b.standingAfter(days));
            refuse("peacesAfter " + days, BAD_NUMBER, b -> b.peacesAfter(days));
        }
    }

    private static FeudBook goneOn(FeudBook book, Consumer<FeudBook> way) {
        way.accept(book);
        return book;
    }

    private void refuse(String call, Class<? extends RuntimeException> due, Consumer<FeudBook> run) {
        String where = state.name + ", " + call;
        for (int way = 0; way < waysToGoOn.size(); way++) {
            Consumer<FeudBook> goOn = waysToGoOn.get(way);
            Supplier<FeudBook> asked = () -> {
                FeudBook book = state.make.get();
                check.throwsJust(where, due, () -> run.accept(book));
                check.throwsJust(where + " once more", due, () -> run.accept(book));
                return goneOn(book, goOn);
            };
            check.same(where + ", way " + way, Check.look(asked), state.answers.get(way));
            check.same(where + ", way " + way + " errorAt", asked.get().errorAt(), state.errors.get(way));
        }
    }

    private void refuseTape(FeudBook book) {
        int bytes = book.tapeBytes();
        if (bytes > 1980) {
            refuse("feed", NOT_NOW, b -> b.feed(0x66616d69, 0x6c792061, 0x3b202020, 0x20202020, 0x20202020));
            refuse("feed of blanks", NOT_NOW,
                    b -> b.feed(0x20202020, 0x20202020, 0x20202020, 0x20202020, 0x20202020));
        }
        for (int n : new int[] {Integer.MIN_VALUE, -20, -1, bytes + 1, bytes + 20, 2001, Integer.MAX_VALUE}) {
            refuse("trim " + n, BAD_NUMBER, b -> b.trim(n));
        }
    }

    private void refuseStatements(FeudBook book) {
        int count = book.statements();
        for (int s : new int[] {Integer.MIN_VALUE, -32, -1, count, count + 1, 20, 32, Integer.MAX_VALUE}) {
            refuse("kindOf " + s, NO_SUCH, b -> b.kindOf(s));
            refuse("firstClaimOf " + s, NO_SUCH, b -> b.firstClaimOf(s));
            refuse("secondClaimOf " + s, NO_SUCH, b -> b.secondClaimOf(s));
            refuse("stands " + s, NO_SUCH, b -> b.stands(s));
            refuse("isNeedless " + s, NO_SUCH, b -> b.isNeedless(s));
            refuse("breakStatement " + s, NO_SUCH, b -> b.breakStatement(s));
            refuse("renewStatement " + s, NO_SUCH, b -> b.renewStatement(s));
        }
        for (int n = 0; n < count; n++) {
            int s = n;
            if (book.stands(s)) {
                refuse("renewStatement " + s, NOT_NOW, b -> b.renewStatement(s));
            } else {
                refuse("breakStatement " + s, NOT_NOW, b -> b.breakStatement(s));
                refuse("isNeedless " + s, NOT_NOW, b -> b.isNeedless(s));
            }
        }
    }

    private void refuseClaims(FeudBook book) {
        int count = 2 * book.families();
        for (int c : new int[] {Integer.MIN_VALUE, -32, -1, count, count + 1, 20, 32, Integer.MAX_VALUE}) {
            refuse("follows " + c, NO_SUCH, b -> b.follows(c, 0));
            refuse("follows from " + c, NO_SUCH, b -> b.follows(0, c));
            refuse("follows of itself " + c, NO_SUCH, b -> b.follows(c, c));
            refuse("whatFollowsFrom " + c, NO_SUCH, b -> b.whatFollowsFrom(c));
            refuse("fewestStatementsBetween " + c, NO_SUCH, b -> b.fewestStatementsBetween(c, 0));
            refuse("fewestStatementsBetween from " + c, NO_SUCH, b -> b.fewestStatementsBetween(0, c));
            refuse("fewestStatementsBetween itself " + c, NO_SUCH, b -> b.fewestStatementsBetween(c, c));
            refuse("partOf " + c, NO_SUCH, b -> b.partOf(c));
            refuse("partSize " + c, NO_SUCH, b -> b.partSize(c));
            refuse("peacesWith " + c, NO_SUCH, b -> b.peacesWith(c));
            refuse("isPossible " + c, NO_SUCH, b -> b.isPossible(c));
            refuse("isSettled " + c, NO_SUCH, b -> b.isSettled(c));
        }
        for (int n = 0; n < Math.min(count, 4); n++) {
            for (int m = 0; m < Math.min(count, 4); m++) {
                int claim = n;
                int from = m;
                if (!book.follows(claim, from)) {
                    refuse("fewestStatementsBetween " + claim + " from " + from, NOT_NOW,
                            b -> b.fewestStatementsBetween(claim, from));
                }
            }
        }
    }

    private void refusePeace(FeudBook book) {
        int count = book.families();
        for (int f : new int[] {Integer.MIN_VALUE, -32, -1, count, count + 1, 10, 32, Integer.MAX_VALUE}) {
            refuse("ridesInPeace " + f, NO_SUCH, b -> b.ridesInPeace(f));
        }
        if (book.isPeacePossible()) {
            refuse("blamedFamily", NOT_NOW, FeudBook::blamedFamily);
        } else {
            refuse("ridersInPeace", NOT_NOW, FeudBook::ridersInPeace);
            for (int n = 0; n < 2 * count; n++) {
                int number = n;
                refuse("isSettled " + n, NOT_NOW, b -> b.isSettled(number));
            }
            for (int n = 0; n < count; n++) {
                int number = n;
                refuse("ridesInPeace " + n, NOT_NOW, b -> b.ridesInPeace(number));
            }
        }
        if (!book.isPeacePossible() || count == 0) {
            refuse("mostTellingOath", NOT_NOW, FeudBook::mostTellingOath);
        }
    }

    /** A book with an error is refused as well: all stays, but the tape is empty, and errorAt() new. */
    private void wrongBooks() {
        String x = "family x; oath y x stays; ";
        String[] tapes = {"family|", "family x; |#", x + "break y when day = 1 |(;", x + "family |x;",
            x + "feud |y x rides with x stays;", "oath o |x rides;", x + "break |x;", x + "renew y when stands |x;",
            x + "break y; ".repeat(16) + "|break y;", x + "oath y9 x rides; pact |y either x rides or x rides;",
            "family f0;family f1;family f2;family f3;family f4;family f5;family f6;family f7;"
                    + "family f8;family f9;family |g;"};
        int[] errors = {1, 1, 1, 2, 2, 3, 3, 3, 4, 2, 4};
        for (Supplier<FeudBook> make : List.<Supplier<FeudBook>>of(FeudBook::new, RefusedTest::houses,
                RefusedTest::allBroken, RefusedTest::full)) {
            for (int n = 0; n < tapes.length; n++) {
                for (Consumer<FeudBook> goOn : waysToGoOn) {
                    wrongBook(make, tapes[n], errors[n], goOn);
                }
            }
        }
    }

    /** The error is at the sign | of the tape, which is left away. */
    private void wrongBook(Supplier<FeudBook> make, String marked, int error, Consumer<FeudBook> goOn) {
        int position = marked.indexOf('|');
        String tape = marked.replace("|", "");
        Supplier<FeudBook> emptied = () -> {
            FeudBook book = make.get();
            book.trim(0);
            return goneOn(book, goOn);
        };
        Supplier<FeudBook> taught = () -> {
            FeudBook book = make.get();
            book.trim(0);
            Check.feed(book, tape);
            check.same("wrong " + tape, book.teach(), error);
            check.same("errorAt of " + tape, book.errorAt(), position);
            check.same("tapeBytes behind " + tape, book.tapeBytes(), 0);
            return goneOn(book, goOn);
        };
        check.same("behind " + tape, Check.look(taught), Check.look(emptied));
    }

    private void questions(Supplier<FeudBook> make) {
        FeudBook book = make.get();
        int error = book.errorAt();
        for (Consumer<FeudBook> goOn : waysToGoOn) {
            List<String> due = Check.look(() -> goneOn(make.get(), goOn));
            for (Check.Question question : Check.questions(book.families(), book.statements())) {
                Supplier<FeudBook> asked = () -> {
                    FeudBook one = make.get();
                    question.answer(one);
                    check.same("errorAt behind " + question.call, one.errorAt(), error);
                    return goneOn(one, goOn);
                };
                check.same("behind " + question.call, Check.look(asked), due);
            }
        }
    }
}
