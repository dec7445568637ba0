/** The promises 1 to 41 one by one, with answers reckoned by hand. What teach refuses is in LanguageTest. */
public final class PromisesTest {
    private static final Class<IndexOutOfBoundsException> NO_SUCH = IndexOutOfBoundsException.class;
    private static final Class<IllegalStateException> NOT_NOW = IllegalStateException.class;
    private static final Class<IllegalArgumentException> BAD_NUMBER = IllegalArgumentException.class;

    /** Claims: ann 0 1, bor 2 3, cei 4 5. One peace: ann stays, bor and cei ride. Without o three. */
    private static final String HOUSES = "family ann; family bor; family cei;"
            + " promise p if ann rides then bor rides; pact q either bor stays or cei rides;"
            + " feud f ann rides with cei rides; oath o bor rides;"
            + " break o when day = 1; renew o when day = 3;";
    private static final String RING = "family a; family b; family c;"
            + " promise p if a rides then b rides; promise q if b rides then a rides;";
    /** No peace, since of b both claims follow from one another. */
    private static final String TORN = "family a; family b; oath o a rides;"
            + " promise p if b rides then b stays; promise q if b stays then b rides;";
    private static final int[] NO_INDEXES = {Integer.MIN_VALUE, -1, 1000, Integer.MAX_VALUE};

    private final Check check = new Check();

    public static void main(String[] args) {
        PromisesTest test = new PromisesTest();
        test.newObject1();
        test.feed2();
        test.trim3();
        test.teach4();
        test.errorAt5();
        test.counts6to8();
        test.days9();
        test.ordersCarriedOut10();
        test.tapeBytes11();
        test.standing12();
        test.kindOf13();
        test.claims14and15();
        test.stands16();
        test.isNeedless17();
        test.follows18();
        test.whatFollowsFrom19();
        test.fewestStatementsBetween20();
        test.parts21to23();
        test.isPeacePossible24();
        test.peaces25();
        test.peacesWith26and27();
        test.isSettled28();
        test.told29and30();
        test.blamedFamily31();
        test.breakStatement32();
        test.renewStatement33();
        test.passDays34();
        test.after35and36();
        test.daysUntilPeace37();
        test.fewestToBreak38();
        test.mostTellingOath39();
        test.meanRiders40();
        test.digest41();
        test.check.finish("PromisesTest");
    }

    private void newObject1() {
        FeudBook book = new FeudBook();
        check.same("1 families", book.families(), 0);
        check.same("1 statements", book.statements(), 0);
        check.same("1 orders", book.orders(), 0);
        check.same("1 days", book.days(), 0);
        check.same("1 ordersCarriedOut", book.ordersCarriedOut(), 0);
        check.same("1 tapeBytes", book.tapeBytes(), 0);
        check.same("1 standing", book.standing(), 0);
        check.same("1 errorAt", book.errorAt(), -1);
        check.same("1 parts", book.parts(), 0);
        check.same("1 peaces", book.peaces(), 1);
        check.same("1 passDays", book.passDays(30), 0);
        FeudBook other = new FeudBook();
        book.feed(1, 2, 3, 4, 5);
        check.same("1 another object", other.tapeBytes(), 0);
        check.same("1 another object", other.days(), 0);
    }

    private void feed2() {
        FeudBook book = new FeudBook();
        // "fami" "ly a" ";ora" and so on: the highest byte is the first one.
        check.same("2 feed", book.feed(0x66616d69, 0x6c792061, 0x3b6f6174, 0x68206f20, 0x61207269), 20);
        check.same("2 feed", book.feed(0x6465733b, 0x20202020, 0x0a0a0a0a, 0x20202020, 0x20202020), 40);
        check.same("2 teach", book.teach(), 0);
        check.same("2 families", book.families(), 1);
        check.same("2 first", book.firstClaimOf(0), 0);
        for (int n = 1; n <= 100; n++) {
            check.same("2 feed", book.feed(0x20202020, 0x20202020, 0x20202020, 0x20202020, 0x20202020), 20 * n);
        }
        check.throwing("2 feed of 2020", NOT_NOW, book, () -> book.feed(1, 2, 3, 4, 5));
        check.same("2 tape", book.tapeBytes(), 2000);
        book.trim(1981);
        check.throwing("2 feed of 2001", NOT_NOW, book, () -> book.feed(1, 2, 3, 4, 5));
        book.trim(1980);
        check.same("2 feed to 2000", book.feed(0x20202020, 0x20202020, 0x20202020, 0x20202020, 0x20202020), 2000);
        check.same("2 teach of blanks", book.teach(), 0);
        check.same("2 families", book.families(), 0);
        // Bytes above 127 are no tokens, in whichever place of the number.
        for (int place = 0; place < 20; place++) {
            int[] numbers = {0x20202020, 0x20202020, 0x20202020, 0x20202020, 0x20202020};
            numbers[place / 4] ^= 0xA0 << 8 * (3 - place % 4);
            book.feed(numbers[0], numbers[1], numbers[2], numbers[3], numbers[4]);
            check.same("2 byte " + place, book.teach(), 1);
            check.same("2 byte " + place, book.errorAt(), place);
        }
    }

    private void trim3() {
        FeudBook book = new FeudBook();
        check.same("3 trim(0)", book.trim(0), 0);
        check.throwing("3 trim(1) of 0", BAD_NUMBER, book, () -> book.trim(1));
        Check.feed(book, "family a; family bcde");
        check.throwing("3 trim(-1)", BAD_NUMBER, book, () -> book.trim(-1));
        check.throwing("3 trim(22) of 21", BAD_NUMBER, book, () -> book.trim(22));
        check.throwing("3 trim(max)", BAD_NUMBER, book, () -> book.trim(Integer.MAX_VALUE));
        check.throwing("3 trim(min)", BAD_NUMBER, book, () -> book.trim(Integer.MIN_VALUE));
        check.same("3 trim(21)", book.trim(21), 21);
        check.same("3 trim(18)", book.trim(18), 18);
        Check.feed(book, ";");
        check.same("3 teach", book.teach(), 0);
        check.same("3 families", book.families(), 2);
    }

    private void teach4() {
        FeudBook book = Check.taught(HOUSES);
        book.passDays(3);
        book.breakStatement(0);
        check.same("4 days", book.days(), 3);
        long before = book.digest();
        // A wrong book changes nothing but the tape and the position of the error.
        for (String wrong : new String[] {"family x", "family x; family x;", "break p;",
            "family x; oath y x rides; family z; bad", "oath o nobody rides;"}) {
            Check.feed(book, wrong);
            check.same("4 wrong " + wrong, book.teach() > 0, true);
            check.same("4 tape", book.tapeBytes(), 0);
            check.same("4 digest", book.digest(), before);
            check.same("4 orders stay", book.standingAfter(1), 3);
            check.same("4 first", book.firstClaimOf(3), 2);
        }
        check.same("4 right", Check.teach(book, "family x; oath y x stays;"), -1);
        check.same("4 families", book.families(), 1);
        check.same("4 statements", book.statements(), 1);
        check.same("4 orders", book.orders(), 0);
        check.same("4 days", book.days(), 0);
        check.same("4 carried out", book.ordersCarriedOut(), 0);
        check.same("4 standing", book.standing(), 1);
        check.same("4 peaces", book.peaces(), 1);
        check.same("4 follows", book.follows(1, 0), true);
        // The same statements stand again, but of other families: nothing of before is left.
        check.same("4 right", Check.teach(book, "family x; oath y x rides;"), -1);
        check.same("4 follows", book.follows(1, 0), false);
        check.same("4 follows", book.follows(0, 1), true);
        check.same("4 rides", book.ridesInPeace(0), true);
        check.same("4 empty tape", book.teach(), 0);
        check.same("4 families", book.families(), 0);
        check.same("4 peaces", book.peaces(), 1);
    }

    private void errorAt5() {
        FeudBook book = new FeudBook();
        check.same("5 at first", book.errorAt(), -1);
        check.same("5 wrong", Check.teach(book, "family a"), 10008);
        check.same("5 wrong", book.errorAt(), 8);
        Check.feed(book, "family a;");
        check.same("5 not taught yet", book.errorAt(), 8);
        check.same("5 teach", book.teach(), 0);
        check.same("5 right", book.errorAt(), -1);
    }

    private void counts6to8() {
        FeudBook book = Check.taught(HOUSES);
        check.same("6 families", book.families(), 3);
        check.same("7 statements", book.statements(), 4);
        check.same("8 orders", book.orders(), 2);
        book.breakStatement(1);
        check.same("7 statements, one broken", book.statements(), 4);
        book = Check.taught(LanguageTest.full());
        check.same("6 families", book.families(), 10);
        check.same("7 statements", book.statements(), 20);
        check.same("8 orders", book.orders(), 16);
    }

    private void days9() {
        FeudBook book = Check.taught(HOUSES);
        check.same("9 at first", book.days(), 0);
        book.passDays(7);
        book.passDays(30);
        book.peacesAfter(5);
        book.daysUntilPeace();
        check.same("9 after 37", book.days(), 37);
    }

    private void ordersCarriedOut10() {
        FeudBook book = Check.taught(HOUSES);
        check.same("10 at first", book.ordersCarriedOut(), 0);
        book.breakStatement(0);
        book.renewStatement(0);
        check.same("10 by hand", book.ordersCarriedOut(), 0);
        book.passDays(2);
        check.same("10 after 2", book.ordersCarriedOut(), 1);
        book.standingAfter(30);
        book.passDays(2);
        check.same("10 after 4", book.ordersCarriedOut(), 2);
        // Only what changes something is carried out.
        book = Check.taught("family a; oath o a rides; renew o; break o; break o; renew o;");
        check.same("10 each day two", book.passDays(30), 60);
        check.same("10 each day two", book.ordersCarriedOut(), 60);
    }

    private void tapeBytes11() {
        FeudBook book = new FeudBook();
        book.feed(0, 0, 0, 0, 0);
        check.same("11 fed", book.tapeBytes(), 20);
        book.trim(13);
        check.same("11 trimmed", book.tapeBytes(), 13);
        book.teach();
        check.same("11 taught", book.tapeBytes(), 0);
    }

    private void standing12() {
        FeudBook book = Check.taught(HOUSES);
        check.same("12 all", book.standing(), 4);
        book.breakStatement(2);
        check.same("12 one broken", book.standing(), 3);
        book.passDays(2);
        check.same("12 two broken", book.standing(), 2);
    }

    private void noStatement(String call, FeudBook book, java.util.function.IntConsumer run) {
        for (int index : NO_INDEXES) {
            check.throwing(call + index, NO_SUCH, book, () -> run.accept(index));
        }
        check.throwing(call + "as many", NO_SUCH, book, () -> run.accept(book.statements()));
    }

    private void noClaim(String call, FeudBook book, java.util.function.IntConsumer run) {
        for (int index : NO_INDEXES) {
            check.throwing(call + index, NO_SUCH, book, () -> run.accept(index));
        }
        check.throwing(call + "as many", NO_SUCH, book, () -> run.accept(2 * book.families()));
    }

    private void kindOf13() {
        FeudBook book = Check.taught(HOUSES);
        for (int kind = 0; kind < 4; kind++) {
            check.same("13 kindOf " + kind, book.kindOf(kind), kind);
        }
        noStatement("13 kindOf ", book, book::kindOf);
        noStatement("13 kindOf ", new FeudBook(), new FeudBook()::kindOf);
    }

    private void claims14and15() {
        FeudBook book = Check.taught(HOUSES);
        int[] firsts = {0, 3, 0, 2};
        int[] seconds = {2, 4, 4, 2};
        for (int s = 0; s < 4; s++) {
            check.same("14 firstClaimOf " + s, book.firstClaimOf(s), firsts[s]);
            check.same("15 secondClaimOf " + s, book.secondClaimOf(s), seconds[s]);
        }
        noStatement("14 firstClaimOf ", book, book::firstClaimOf);
        noStatement("15 secondClaimOf ", book, book::secondClaimOf);
    }

    private void stands16() {
        FeudBook book = Check.taught(HOUSES);
        check.same("16 stands", book.stands(3), true);
        book.breakStatement(3);
        check.same("16 broken", book.stands(3), false);
        check.same("16 another", book.stands(2), true);
        noStatement("16 stands ", book, book::stands);
    }

    private void isNeedless17() {
        FeudBook book = Check.taught(HOUSES);
        // Without p: bor and cei ride, ann stays by f, one peace still. Without o: three.
        check.same("17 p", book.isNeedless(0), true);
        check.same("17 q", book.isNeedless(1), false);
        check.same("17 f", book.isNeedless(2), false);
        check.same("17 o", book.isNeedless(3), false);
        check.same("17 nothing is changed", book.standing(), 4);
        book.breakStatement(0);
        check.throwing("17 broken", NOT_NOW, book, () -> book.isNeedless(0));
        noStatement("17 isNeedless ", book, book::isNeedless);
        // As many as none: one broken of two torn pairs leaves no peace.
        FeudBook torn = Check.taught("family a; oath o a rides; oath u a rides; oath v a stays;");
        check.same("17 torn o", torn.isNeedless(0), true);
        check.same("17 torn v", torn.isNeedless(2), false);
    }

    private void follows18() {
        FeudBook book = Check.taught(HOUSES);
        String[] due = {"111111", "010000", "011010", "011110", "010010", "011111"};
        for (int from = 0; from < 6; from++) {
            for (int claim = 0; claim < 6; claim++) {
                check.same("18 follows " + claim + " from " + from, book.follows(claim, from),
                        due[from].charAt(claim) == '1');
            }
        }
        book.breakStatement(3);
        check.same("18 broken", book.follows(2, 3), false);
        check.same("18 broken", book.follows(2, 0), true);
        noClaim("18 follows ", book, claim -> book.follows(claim, 0));
        noClaim("18 from ", book, claim -> book.follows(0, claim));
    }

    private void whatFollowsFrom19() {
        FeudBook book = Check.taught(HOUSES);
        int[] due = {6, 1, 3, 4, 2, 5};
        for (int claim = 0; claim < 6; claim++) {
            check.same("19 whatFollowsFrom " + claim, book.whatFollowsFrom(claim), due[claim]);
        }
        noClaim("19 whatFollowsFrom ", book, book::whatFollowsFrom);
        check.same("19 nothing told", Check.taught("family a;").whatFollowsFrom(1), 1);
    }

    private void fewestStatementsBetween20() {
        FeudBook book = Check.taught(HOUSES);
        check.same("20 the same", book.fewestStatementsBetween(5, 5), 0);
        check.same("20 one", book.fewestStatementsBetween(2, 0), 1);
        check.same("20 two", book.fewestStatementsBetween(4, 0), 2);
        check.same("20 two", book.fewestStatementsBetween(2, 5), 2);
        check.same("20 three", book.fewestStatementsBetween(1, 0), 3);
        check.throwing("20 not", NOT_NOW, book, () -> book.fewestStatementsBetween(0, 1));
        noClaim("20 claim ", book, claim -> book.fewestStatementsBetween(claim, 0));
        noClaim("20 from ", book, claim -> book.fewestStatementsBetween(0, claim));
        book.breakStatement(0);
        check.same("20 around", book.fewestStatementsBetween(2, 0), 3);
        // The longest chain: nine promises, each behind the other.
        StringBuilder chain = new StringBuilder();
        for (int f = 0; f < 10; f++) {
            chain.append("family f").append(f).append(";");
        }
        for (int f = 0; f < 9; f++) {
            chain.append("promise p" + f + " if f" + f + " rides then f" + (f + 1) + " rides;");
        }
        chain.append("promise p9 if f9 rides then f0 stays;");
        FeudBook long1 = Check.taught(chain.toString());
        check.same("20 chain", long1.fewestStatementsBetween(18, 0), 9);
        check.same("20 chain back", long1.fewestStatementsBetween(1, 19), 9);
        check.same("20 chain turned", long1.fewestStatementsBetween(1, 0), 10);
        check.same("20 chain parts", long1.parts(), 20);
        // A statement that is used twice counts twice: a, then b, then not b, then not a.
        FeudBook twice = Check.taught("family a; family b; promise p if a rides then b rides;"
                + " promise q if b rides then b stays;");
        check.same("20 twice", twice.fewestStatementsBetween(1, 0), 3);
    }

    private void parts21to23() {
        FeudBook book = Check.taught(RING);
        check.same("21 parts", book.parts(), 4);
        int[] of = {0, 1, 0, 1, 4, 5};
        int[] sizes = {2, 2, 2, 2, 1, 1};
        for (int claim = 0; claim < 6; claim++) {
            check.same("22 partOf " + claim, book.partOf(claim), of[claim]);
            check.same("23 partSize " + claim, book.partSize(claim), sizes[claim]);
        }
        noClaim("22 partOf ", book, book::partOf);
        noClaim("23 partSize ", book, book::partSize);
        book.breakStatement(1);
        check.same("21 broken", book.parts(), 6);
        check.same("22 broken", book.partOf(2), 2);
        check.same("23 broken", book.partSize(2), 1);
        check.same("21 torn", Check.taught(TORN).parts(), 3);
        check.same("23 torn", Check.taught(TORN).partSize(3), 2);
        check.same("21 nothing told", new FeudBook().parts(), 0);
    }

    private void isPeacePossible24() {
        check.same("24 houses", Check.taught(HOUSES).isPeacePossible(), true);
        check.same("24 nothing told", new FeudBook().isPeacePossible(), true);
        FeudBook torn = Check.taught(TORN);
        check.same("24 torn", torn.isPeacePossible(), false);
        torn.breakStatement(2);
        check.same("24 mended", torn.isPeacePossible(), true);
    }

    private void peaces25() {
        FeudBook book = Check.taught(HOUSES);
        check.same("25 one", book.peaces(), 1);
        book.breakStatement(3);
        check.same("25 three", book.peaces(), 3);
        check.same("25 torn", Check.taught(TORN).peaces(), 0);
        StringBuilder many = new StringBuilder();
        for (int families = 1; families <= 10; families++) {
            many.append("family f").append(families).append(";");
            check.same("25 all of " + families, Check.taught(many.toString()).peaces(), 1 << families);
        }
        many.append("pact p either f1 rides or f10 stays; feud q f7 rides with f8 rides;");
        check.same("25 of ten", Check.taught(many.toString()).peaces(), 1024 * 3 / 4 * 3 / 4);
    }

    private void peacesWith26and27() {
        FeudBook book = Check.taught(HOUSES);
        book.breakStatement(3);
        int[] due = {0, 3, 1, 2, 2, 1};
        for (int claim = 0; claim < 6; claim++) {
            check.same("26 peacesWith " + claim, book.peacesWith(claim), due[claim]);
            check.same("27 isPossible " + claim, book.isPossible(claim), due[claim] > 0);
        }
        noClaim("26 peacesWith ", book, book::peacesWith);
        noClaim("27 isPossible ", book, book::isPossible);
        FeudBook torn = Check.taught(TORN);
        check.same("26 torn", torn.peacesWith(0), 0);
        check.same("27 torn", torn.isPossible(0), false);
    }

    private void isSettled28() {
        FeudBook book = Check.taught(HOUSES);
        boolean[] due = {false, true, true, false, true, false};
        for (int claim = 0; claim < 6; claim++) {
            check.same("28 isSettled " + claim, book.isSettled(claim), due[claim]);
        }
        book.breakStatement(3);
        check.same("28 not now", book.isSettled(2), false);
        check.same("28 still", book.isSettled(1), true);
        noClaim("28 isSettled ", book, book::isSettled);
        FeudBook torn = Check.taught(TORN);
        check.throwing("28 torn", NOT_NOW, torn, () -> torn.isSettled(0));
        noClaim("28 torn ", torn, torn::isSettled);
    }

    private void told29and30() {
        FeudBook book = Check.taught(HOUSES);
        check.same("29 ann", book.ridesInPeace(0), false);
        check.same("29 bor", book.ridesInPeace(1), true);
        check.same("29 cei", book.ridesInPeace(2), true);
        check.same("30 riders", book.ridersInPeace(), 2);
        for (int index : new int[] {Integer.MIN_VALUE, -1, 3, Integer.MAX_VALUE}) {
            check.throwing("29 " + index, NO_SUCH, book, () -> book.ridesInPeace(index));
        }
        // The first family rides if it can, though then fewer ride in all.
        FeudBook alone = Check.taught("family a; family b; family c;"
                + " feud f a rides with b rides; feud g a rides with c rides;");
        check.same("29 a", alone.ridesInPeace(0), true);
        check.same("29 b", alone.ridesInPeace(1), false);
        check.same("30 alone", alone.ridersInPeace(), 1);
        FeudBook torn = Check.taught(TORN);
        check.throwing("29 torn", NOT_NOW, torn, () -> torn.ridesInPeace(0));
        check.throwing("29 torn and no such", NO_SUCH, torn, () -> torn.ridesInPeace(2));
        check.throwing("30 torn", NOT_NOW, torn, torn::ridersInPeace);
        check.same("30 nothing told", new FeudBook().ridersInPeace(), 0);
    }

    private void blamedFamily31() {
        FeudBook torn = Check.taught(TORN);
        check.same("31 torn", torn.blamedFamily(), 1);
        FeudBook both = Check.taught("family a; family b; family c; oath o c rides; oath p b rides;"
                + " oath q c stays; oath r b stays;");
        check.same("31 the smallest", both.blamedFamily(), 1);
        both.breakStatement(1);
        check.same("31 the other one", both.blamedFamily(), 2);
        both.breakStatement(0);
        check.throwing("31 peace", NOT_NOW, both, both::blamedFamily);
        check.throwing("31 nothing told", NOT_NOW, new FeudBook(), new FeudBook()::blamedFamily);
    }

    private void breakStatement32() {
        FeudBook book = Check.taught(HOUSES);
        check.same("32 first", book.breakStatement(1), 3);
        check.same("32 second", book.breakStatement(3), 2);
        check.same("32 stands", book.stands(1), false);
        check.throwing("32 broken", NOT_NOW, book, () -> book.breakStatement(1));
        noStatement("32 breakStatement ", book, book::breakStatement);
        check.same("32 days", book.days(), 0);
    }

    private void renewStatement33() {
        FeudBook book = Check.taught(HOUSES);
        check.throwing("33 stands", NOT_NOW, book, () -> book.renewStatement(2));
        book.breakStatement(2);
        book.breakStatement(3);
        check.same("33 first", book.renewStatement(3), 3);
        check.same("33 second", book.renewStatement(2), 4);
        check.same("33 stands", book.stands(2), true);
        check.same("33 peaces", book.peaces(), 1);
        noStatement("33 renewStatement ", book, book::renewStatement);
    }

    private void passDays34() {
        FeudBook book = Check.taught(HOUSES);
        for (int days : new int[] {Integer.MIN_VALUE, -1, 0, 31, Integer.MAX_VALUE}) {
            check.throwing("34 passDays " + days, BAD_NUMBER, book, () -> book.passDays(days));
        }
        check.same("34 day 0", book.passDays(1), 0);
        check.same("34 day 1", book.passDays(1), 1);
        check.same("34 day 1", book.stands(3), false);
        check.same("34 days 2 to 4", book.passDays(3), 1);
        check.same("34 day 3", book.stands(3), true);
        check.same("34 the rest", book.passDays(30), 0);
        // An order sees what the orders ahead of it have done on the same day.
        FeudBook turns = Check.taught("family a; oath o a rides; oath u a rides;"
                + " break o when day = 0; break u when not stands o;");
        check.same("34 in turn", turns.passDays(1), 2);
        turns = Check.taught("family a; oath o a rides; oath u a rides;"
                + " break u when not stands o; break o when day = 0;");
        check.same("34 out of turn", turns.passDays(1), 1);
        check.same("34 out of turn", turns.passDays(1), 1);
        // 16 orders that all change something, each day anew.
        StringBuilder all = new StringBuilder("family a; oath o a rides;");
        for (int n = 0; n < 8; n++) {
            all.append("break o; renew o;");
        }
        check.same("34 all", Check.taught(all.toString()).passDays(30), 480);
    }

    private void after35and36() {
        FeudBook book = Check.taught(HOUSES);
        int[] standing = {4, 3, 3, 4, 4};
        int[] peaces = {1, 3, 3, 1, 1};
        for (int days = 1; days <= 5; days++) {
            check.same("35 standingAfter " + days, book.standingAfter(days), standing[days - 1]);
            check.same("36 peacesAfter " + days, book.peacesAfter(days), peaces[days - 1]);
        }
        check.same("35 nothing is changed", book.days() + book.ordersCarriedOut(), 0);
        check.same("35 nothing is changed", book.standing(), 4);
        check.same("36 nothing is changed", book.peaces(), 1);
        book.passDays(2);
        check.same("35 from day 2", book.standingAfter(1), 3);
        check.same("35 from day 2", book.standingAfter(2), 4);
        check.same("36 from day 2", book.peacesAfter(30), 1);
        for (int days : new int[] {Integer.MIN_VALUE, -1, 0, 31, Integer.MAX_VALUE}) {
            check.throwing("35 standingAfter " + days, BAD_NUMBER, book, () -> book.standingAfter(days));
            check.throwing("36 peacesAfter " + days, BAD_NUMBER, book, () -> book.peacesAfter(days));
        }
    }

    private void daysUntilPeace37() {
        check.same("37 now", Check.taught(HOUSES).daysUntilPeace(), 0);
        check.same("37 never", Check.taught(TORN).daysUntilPeace(), -1);
        FeudBook book = Check.taught(TORN + " break q when day = 0;");
        check.same("37 after 1", book.daysUntilPeace(), 1);
        book = Check.taught(TORN + " break q when day = 29;");
        check.same("37 after 30", book.daysUntilPeace(), 30);
        check.same("37 nothing is changed", book.days() + book.ordersCarriedOut(), 0);
        book.passDays(4);
        check.same("37 after 26", book.daysUntilPeace(), 26);
        book = Check.taught(TORN + " break q when day = 30;");
        check.same("37 after 31", book.daysUntilPeace(), -1);
        // A peace that is over on the evening does not count.
        book = Check.taught(TORN + " break q when day = 2; renew q when day = 2; break p when day = 5;");
        check.same("37 in the middle of a day", book.daysUntilPeace(), 6);
    }

    private void fewestToBreak38() {
        check.same("38 none", Check.taught(HOUSES).fewestToBreak(), 0);
        FeudBook torn = Check.taught(TORN);
        check.same("38 one", torn.fewestToBreak(), 1);
        check.same("38 nothing is changed", torn.standing(), 3);
        String two = "family a; oath o a rides; oath p a rides; oath q a stays; oath r a stays;";
        FeudBook pair = Check.taught(two);
        check.same("38 two", pair.fewestToBreak(), 2);
        FeudBook three = Check.taught(two + "oath s a rides; oath t a stays;");
        check.same("38 three", three.fewestToBreak(), -1);
        three.breakStatement(5);
        check.same("38 two again", three.fewestToBreak(), 2);
        FeudBook ten = Check.taught(tenTorn(2));
        check.same("38 two of ten", ten.fewestToBreak(), 2);
        check.same("38 three of ten", Check.taught(tenTorn(3)).fewestToBreak(), -1);
    }

    /** Ten families, of which so many at the end have sworn both. */
    private static String tenTorn(int torn) {
        StringBuilder text = new StringBuilder();
        for (int f = 0; f < 10; f++) {
            text.append("family f" + f + "; oath r" + f + " f" + f + " rides;");
        }
        for (int f = 10 - torn; f < 10; f++) {
            text.append("oath s" + f + " f" + f + " stays;");
        }
        return text.toString();
    }

    private void mostTellingOath39() {
        FeudBook book = Check.taught(HOUSES);
        check.same("39 houses", book.mostTellingOath(), 1);
        book.breakStatement(3);
        check.same("39 one peace, the smallest", book.mostTellingOath(), 2);
        FeudBook torn = Check.taught(TORN);
        check.throwing("39 torn", NOT_NOW, torn, torn::mostTellingOath);
        check.throwing("39 nothing told", NOT_NOW, new FeudBook(), new FeudBook()::mostTellingOath);
        check.same("39 all the same", Check.taught("family a; family b;").mostTellingOath(), 0);
        check.same("39 the last", Check.taught("family a; family b; family c;"
                + " pact p either a rides or c rides; pact q either b rides or c rides;").mostTellingOath(), 5);
    }

    private void meanRiders40() {
        FeudBook book = Check.taught(HOUSES);
        check.sameDouble("40 one", book.meanRiders(), 2.0);
        book.breakStatement(3);
        check.sameDouble("40 three", book.meanRiders(), 1.0);
        check.sameDouble("40 no peace", Check.taught(TORN).meanRiders(), 0.0);
        check.sameDouble("40 no family", new FeudBook().meanRiders(), 0.0);
        check.sameDouble("40 thirds", Check.taught("family a; family b; pact p either a rides or b rides;")
                .meanRiders(), 4.0 / 3.0);
        check.sameDouble("40 ten", Check.taught("family a; family b; family c; family d; family e;"
                + "family f; family g; family h; family i; family j;").meanRiders(), 5.0);
    }

    private void digest41() {
        long empty = 947;
        for (int x : new int[] {0, 0, 0, 0, 0, 0, 0, 0, 1}) {
            empty = empty * 31 + x;
        }
        check.same("41 nothing told", new FeudBook().digest(), empty);
        FeudBook book = Check.taught("family a; family b; promise p if a rides then b rides;"
                + " oath o b stays; break p when day = 1; break o;");
        book.passDays(2);
        book.renewStatement(1);
        book.feed(0, 0, 0, 0, 0);
        long d = 947;
        for (int x : new int[] {2, 2, 2, 2, 2, 20, 1, 4, 2,
            0, 0, 2, 0, 3, 3, 3, 1,
            1, 0, 1, 1, 1, 1, 2, 2, 0, 1, 3, 2,
            1, 0}) {
            d = d * 31 + x;
        }
        check.same("41 digest", book.digest(), d);
        FeudBook torn = Check.taught("family a; oath o a rides; oath p a stays;");
        d = 947;
        for (int x : new int[] {1, 2, 0, 0, 0, 0, 2, 1, 0, 3, 0, 0, 1, 3, 1, 1, 1, 2, 0, 0, 2, 0, 0}) {
            d = d * 31 + x;
        }
        check.same("41 no peace", torn.digest(), d);
    }
}
