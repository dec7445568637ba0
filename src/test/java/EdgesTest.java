import java.util.ArrayList;
import java.util.List;
import java.util.function.Supplier;

/**
 * The edges of what a book means: the greatest and the least numbers, the full and the empty book,
 * what changes nothing; and all books of one or two statements on two families.
 */
public final class EdgesTest {
    private static final String A = "family a; oath o a rides; ";
    private static final String LEAST = "(65536*32768)";
    private static final String GREATEST = "(65536*32768-1)";
    private static final String[] SIGNS = {"<", ">", "=", "<=", ">="};

    private final Check check = new Check();

    public static void main(String[] args) {
        EdgesTest test = new EdgesTest();
        test.newObject();
        test.wrapAround();
        test.division();
        test.comparisons();
        test.rowsOfSigns();
        test.andOrNot();
        test.whatTestsSee();
        test.turnsOfOneDay();
        test.taughtAgain();
        test.ordersThatChangeNothing();
        test.noFamily();
        test.familiesAlone();
        test.oneStatement();
        test.twoStatements();
        test.fullBook();
        test.chains();
        test.oneRing();
        test.needless();
        test.toldPeace();
        test.blamed();
        test.byHand();
        test.daysOneAndThirty();
        test.untilPeace();
        test.toBreak();
        test.oaths();
        test.mean();
        test.digests();
        test.calls512();
        test.check.finish("EdgesTest");
    }

    private static String families(int count) {
        StringBuilder text = new StringBuilder();
        for (int n = 0; n < count; n++) {
            text.append("family f").append(n).append(";");
        }
        return text.toString();
    }

    private void newObject() {
        check.same("new", Check.look(FeudBook::new), Check.look(() -> Check.taught("")));
        FeudBook book = new FeudBook();
        check.same("new errorAt", book.errorAt(), -1);
        check.same("new standing", book.standing(), 0);
        check.same("new isPeacePossible", book.isPeacePossible(), true);
        check.same("new daysUntilPeace", book.daysUntilPeace(), 0);
        check.same("new fewestToBreak", book.fewestToBreak(), 0);
        check.same("new standingAfter", book.standingAfter(30), 0);
        check.same("new peacesAfter", book.peacesAfter(30), 1);
        check.same("new passDays", book.passDays(1), 0);
        check.same("new days", book.days(), 1);
        check.same("new ridersInPeace", book.ridersInPeace(), 0);
        check.sameDouble("new meanRiders", book.meanRiders(), 0.0);
    }

    // ---- sums

    /** Whether a test holds on the day 0 of a book with one family, which has sworn to ride. */
    private boolean holds(String test) {
        return Check.taught(A + "break o when " + test + ";").passDays(1) == 1;
    }

    private void sum(String sum, String due) {
        check.same(sum + " = " + due, holds(sum + " = " + due), true);
        check.same(sum + " < " + due, holds(sum + " < " + due), false);
        check.same(sum + " > " + due, holds(sum + " > " + due), false);
    }

    private void wrapAround() {
        check.same("the least", holds(LEAST + " < 0"), true);
        check.same("the greatest", holds(GREATEST + " > 0"), true);
        sum(GREATEST + " + 1", LEAST);
        sum(GREATEST + " + " + GREATEST, "-2");
        sum(LEAST + " + " + LEAST, "0");
        sum(LEAST + " + -1", GREATEST);
        sum(LEAST + " - 1", GREATEST);
        sum("0 - " + LEAST, LEAST);
        sum(LEAST + " - " + GREATEST, "1");
        sum(GREATEST + " - " + LEAST, "-1");
        sum("-" + LEAST, LEAST);
        sum("-" + GREATEST, LEAST + " + 1");
        sum("--" + LEAST, LEAST);
        sum(LEAST + " * -1", LEAST);
        sum(LEAST + " * 2", "0");
        sum(LEAST + " * " + LEAST, "0");
        sum(GREATEST + " * " + GREATEST, "1");
        sum(LEAST + " * " + GREATEST, LEAST);
        sum("65536 * 65536", "0");
        sum("65536 * 65535", "-65536");
        sum("65535 * 65537", "-1");
        sum("46341 * 46341", "-2147 * 1000 * 1000 - 479015");
        sum("46340 * 46340", "2147 * 1000 * 1000 + 395600");
        sum("999999 * 999999", "-729 * 1000 * 1000 - 379967");
    }

    private void division() {
        String[] left = {"7", "-7", "6", "-6", "1", "-1", "0", GREATEST, LEAST, LEAST, LEAST, LEAST, GREATEST,
            "999999", LEAST, LEAST, "(" + LEAST + "+1)"};
        String[] right = {"2", "2", "3", "3", "2", "2", "5", "-1", "-1", "1", "2", GREATEST, LEAST,
            "1000", LEAST, "-2", "-1"};
        String[] due = {"3", "-3", "2", "-2", "0", "0", "0", LEAST + "+1", LEAST, LEAST, "-32768*32768", "-1", "0",
            "999", "1", "32768*32768", GREATEST};
        for (int n = 0; n < due.length; n++) {
            sum(left[n] + " / " + right[n], due[n]);
        }
        sum("7 / -2", "-3");
        sum("-7 / -2", "3");
        sum("-1 / -2", "0");
        for (String zero : new String[] {"0", "(1 - 1)", "-0", "(1 / 2)", "day", "min(0, 1)", "(65536 * 65536)"}) {
            for (String value : new String[] {"0", "1", "-1", "999999", LEAST, GREATEST}) {
                sum(value + " / " + zero, "0");
            }
        }
        // It is cut at each /, not at the end.
        sum("7 / 2 * 2", "6");
        sum("7 * 2 / 2", "7");
        sum("1 / 0 + 5", "5");
        sum("5 - 1 / 0", "5");
    }

    private void comparisons() {
        String[] numbers = {LEAST, "-1", "0", "1", GREATEST};
        for (int left = 0; left < 5; left++) {
            for (int right = 0; right < 5; right++) {
                boolean[] due = {left < right, left > right, left == right, left <= right, left >= right};
                for (int sign = 0; sign < 5; sign++) {
                    String test = numbers[left] + SIGNS[sign] + numbers[right];
                    check.same(test, holds(test), due[sign]);
                }
                sum("min(" + numbers[left] + "," + numbers[right] + ")", numbers[Math.min(left, right)]);
                sum("max(" + numbers[left] + "," + numbers[right] + ")", numbers[Math.max(left, right)]);
            }
        }
    }

    private void rowsOfSigns() {
        sum("2 - 3 - 4", "-5");
        sum("2 - (3 - 4)", "3");
        sum("2 - 3 + 4", "3");
        sum("80 / 4 / 2", "10");
        sum("80 / (4 / 2)", "40");
        sum("2 / 4 * 3", "0");
        sum("2 * 3 / 4", "1");
        sum("1 + 2 * 3 - 4 / 2", "5");
        sum("-1 - 1", "-2");
        sum("-1 + 1", "0");
        sum("- 2 * 3", "-6");
        sum("2 * - 3", "-6");
        sum("2 - - 3", "5");
        sum("2 - - - 3", "-1");
        sum("-(2 - 5) * 2", "6");
        sum("min(5 - 3 - 1, 2 * 3)", "1");
        sum("max(5 - 3 - 1, 2 * 3)", "6");
        sum("min(1, 2) + max(3, 4) * 10", "41");
        sum("007", "7");
        sum("100000", "99999 + 1");
        sum("123456", "1 + 5 * (11 + 20 * 1234)");
    }

    private void andOrNot() {
        String[] side = {"1 = 2", "1 = 1"};
        for (int n = 0; n < 8; n++) {
            boolean a = (n & 4) != 0;
            boolean b = (n & 2) != 0;
            boolean c = (n & 1) != 0;
            String x = side[n >> 2];
            String y = side[n >> 1 & 1];
            String z = side[n & 1];
            check.same("1 " + n, holds(x + " or " + y + " and " + z), a || b && c);
            check.same("2 " + n, holds(x + " and " + y + " or " + z), a && b || c);
            check.same("3 " + n, holds("[" + x + " or " + y + "] and " + z), (a || b) && c);
            check.same("4 " + n, holds(x + " and [" + y + " or " + z + "]"), a && (b || c));
            check.same("5 " + n, holds("not " + x + " and " + y + " or " + z), !a && b || c);
            check.same("6 " + n, holds("not " + x + " or " + y + " and not " + z), !a || b && !c);
            check.same("7 " + n, holds("not [" + x + " and " + y + "] and " + z), !(a && b) && c);
            check.same("8 " + n, holds("not [" + x + " or " + y + "] or " + z), !(a || b) || c);
            check.same("9 " + n, holds("not not " + x + " and " + y + " and " + z), a && b && c);
            check.same("10 " + n, holds(x + " or " + y + " or " + z), a || b || c);
            check.same("11 " + n, holds("[[" + x + "] or not [" + y + "]] and not not not " + z), (a || !b) && !c);
        }
    }

    // ---- orders

    private void whatTestsSee() {
        // The day 0 to 29 of the first thirty, and the latest that 500 calls can reach.
        for (int day = 0; day < 30; day++) {
            FeudBook book = Check.taught(A + "break o when day = " + day + ";");
            check.same("day " + day, book.standingAfter(30), 0);
            check.same("day " + day, book.passDays(30), 1);
            book = Check.taught(A + "break o when day = " + day + ";");
            if (day > 0) {
                check.same("ahead of day " + day, book.passDays(day), 0);
            }
            check.same("on day " + day, book.passDays(1), 1);
        }
        FeudBook late = Check.taught(A + "break o when day = 14399; renew o when day = 14400;");
        for (int n = 1; n < 480; n++) {
            check.same("late", late.passDays(30), 0);
        }
        check.same("late", late.passDays(30), 1);
        check.same("late days", late.days(), 14400);
        check.same("late", late.passDays(1), 1);
        // The greatest numbers of parts, peaces and standing statements.
        StringBuilder many = new StringBuilder(families(10));
        for (int n = 0; n < 20; n++) {
            many.append("pact s").append(n).append(" either f0 rides or f0 stays;");
        }
        FeudBook book = Check.taught(many + "break s0 when peaces=1024 and parts=20 and standing=20;"
                + "break s1 when standing=19 and day=0;");
        check.same("greatest", book.passDays(1), 2);
        book = Check.taught(families(1) + "oath o f0 rides;oath p f0 stays;"
                + "break o when peaces=0 and parts=1 and standing=2 and day=0;"
                + "break p when peaces=1 and parts=2 and standing=1;"
                + "renew o when peaces=2 and parts=2 and standing=0 and not stands o and not stands p;");
        check.same("least", book.passDays(1), 3);
        check.same("least", book.stands(0), true);
        check.same("least", book.stands(1), false);
        // Of no peace nothing is possible, and each claim follows still from itself.
        book = Check.taught(families(2) + "oath o f0 rides;oath p f0 stays;"
                + "break o when possible f0 rides or possible f0 stays or possible f1 rides or possible f1 stays;"
                + "break p when follows f1 rides from f1 rides and not follows f1 rides from f0 rides"
                + " and follows f0 rides from f0 stays and follows f0 stays from f0 rides;");
        check.same("torn", book.passDays(1), 1);
        check.same("torn", book.stands(1), false);
    }

    private void turnsOfOneDay() {
        String told = families(1) + "oath o f0 rides;oath p f0 rides;";
        // What an order does the next one sees, but the day and what was ahead it does not see again.
        FeudBook book = Check.taught(told + "break o when stands p;break p when not stands o;renew o when not stands p;");
        check.same("turns", book.standingAfter(1), 1);
        check.same("turns", book.passDays(1), 3);
        check.same("turns", book.stands(0), true);
        check.same("turns", book.stands(1), false);
        check.same("turns", book.days(), 1);
        book = Check.taught(told + "break o when day=0;break p when day=1;renew o when day=0;");
        check.same("the same day", book.passDays(1), 2);
        check.same("the same day", book.standing(), 2);
        check.same("the next day", book.passDays(1), 1);
        // Broken by hand, renewed by an order on the same day, and the other way round.
        book = Check.taught(told + "renew o;");
        book.breakStatement(0);
        check.same("by hand", book.passDays(30), 1);
        check.same("by hand", book.ordersCarriedOut(), 1);
        check.same("by hand", book.stands(0), true);
    }

    /** One object, taught one book of long tests behind the other, right and wrong ones. */
    private void taughtAgain() {
        FeudBook book = new FeudBook();
        for (int n = 0; n < 10; n++) {
            String sum = "1" + "+1".repeat(100 + n);
            check.same("again " + n, Check.teach(book, A + "oath p a rides;break o when " + sum + "=" + (101 + n)
                    + ";break p when " + sum.substring(0, 99) + "=49;"), -1);
            check.same("again " + n, book.passDays(1), 1);
            check.same("again " + n, book.stands(0), false);
            check.same("again " + n, book.stands(1), true);
            check.same("again " + n, Check.teach(book, A + "break o when " + sum + "=1;#") / 10000, 1);
            check.same("again " + n, book.stands(0), false);
            book.breakStatement(1);
        }
    }

    private void ordersThatChangeNothing() {
        FeudBook book = Check.taught(A + "renew o;renew o when day<9;");
        check.same("renew of what stands", book.passDays(30), 0);
        check.same("renew of what stands", book.ordersCarriedOut(), 0);
        book = Check.taught(A + "break o;break o;break o when day<9;");
        check.same("break of what is broken", book.passDays(30), 1);
        check.same("break of what is broken", book.passDays(30), 0);
        check.same("break of what is broken", book.ordersCarriedOut(), 1);
        book = Check.taught(A + "break o when 1=2;");
        check.same("test that does not hold", book.passDays(30), 0);
        check.same("test that does not hold", book.stands(0), true);
    }

    // ---- small books

    private void noFamily() {
        for (Supplier<FeudBook> make : List.<Supplier<FeudBook>>of(FeudBook::new, () -> Check.taught(" \n"))) {
            FeudBook book = make.get();
            check.same("no family: peaces", book.peaces(), 1);
            check.same("no family: parts", book.parts(), 0);
            check.same("no family: isPeacePossible", book.isPeacePossible(), true);
            check.same("no family: ridersInPeace", book.ridersInPeace(), 0);
            check.same("no family: fewestToBreak", book.fewestToBreak(), 0);
            check.same("no family: daysUntilPeace", book.daysUntilPeace(), 0);
            check.sameDouble("no family: meanRiders", book.meanRiders(), 0.0);
            check.throwing("no family: mostTellingOath", IllegalStateException.class, book, book::mostTellingOath);
            check.throwing("no family: blamedFamily", IllegalStateException.class, book, book::blamedFamily);
            check.throwing("no family: partOf", IndexOutOfBoundsException.class, book, () -> book.partOf(0));
            check.throwing("no family: isSettled", IndexOutOfBoundsException.class, book, () -> book.isSettled(0));
            check.throwing("no family: ridesInPeace", IndexOutOfBoundsException.class, book, () -> book.ridesInPeace(0));
        }
    }

    private void familiesAlone() {
        for (int count = 1; count <= 10; count++) {
            FeudBook book = Check.taught(families(count));
            String where = count + " families: ";
            check.same(where + "families", book.families(), count);
            check.same(where + "statements", book.statements(), 0);
            check.same(where + "parts", book.parts(), 2 * count);
            check.same(where + "peaces", book.peaces(), 1 << count);
            check.same(where + "ridersInPeace", book.ridersInPeace(), count);
            check.same(where + "mostTellingOath", book.mostTellingOath(), 0);
            check.sameDouble(where + "meanRiders", book.meanRiders(), count / 2.0);
            int last = 2 * count - 1;
            check.same(where + "peacesWith", book.peacesWith(last), 1 << (count - 1));
            check.same(where + "whatFollowsFrom", book.whatFollowsFrom(last), 1);
            check.same(where + "partOf", book.partOf(last), last);
            check.same(where + "partSize", book.partSize(last), 1);
            check.same(where + "isPossible", book.isPossible(last), true);
            check.same(where + "isSettled", book.isSettled(last), false);
            check.same(where + "follows itself", book.follows(last, last), true);
            check.same(where + "follows", book.follows(last, last - 1), false);
            check.same(where + "between itself", book.fewestStatementsBetween(last, last), 0);
            check.same(where + "ridesInPeace", book.ridesInPeace(count - 1), true);
            check.throwing(where + "claim", IndexOutOfBoundsException.class, book, () -> book.peacesWith(last + 1));
            int none = count;
            check.throwing(where + "family", IndexOutOfBoundsException.class, book, () -> book.ridesInPeace(none));
            check.throwing(where + "statement", IndexOutOfBoundsException.class, book, () -> book.stands(0));
        }
    }

    /** A statement on two families: its kind, and its two claims. */
    private static List<int[]> allStatements() {
        List<int[]> all = new ArrayList<>();
        for (int kind = 0; kind < 4; kind++) {
            for (int first = 0; first < 4; first++) {
                for (int second = 0; second < 4; second++) {
                    if (kind < 3 || first == second) {
                        all.add(new int[] {kind, first, second});
                    }
                }
            }
        }
        return all;
    }

    private static String told(int[] statement, String name) {
        String[] claims = {"a rides", "a stays", "b rides", "b stays"};
        String first = claims[statement[1]];
        String second = claims[statement[2]];
        switch (statement[0]) {
            case 0:
                return "promise " + name + " if " + first + " then " + second + ";";
            case 1:
                return "pact " + name + " either " + first + " or " + second + ";";
            case 2:
                return "feud " + name + " " + first + " with " + second + ";";
            default:
                return "oath " + name + " " + first + ";";
        }
    }

    /** Whether a claim holds, if the bits of rides tell who rides: 2 for a, 1 for b. */
    private static boolean holds(int claim, int rides) {
        return ((rides >> (1 - claim / 2) & 1) == 1) == (claim % 2 == 0);
    }

    private static boolean isKept(int[] statement, int rides) {
        boolean first = holds(statement[1], rides);
        boolean second = holds(statement[2], rides);
        switch (statement[0]) {
            case 0:
                return !first || second;
            case 1:
                return first || second;
            case 2:
                return !(first && second);
            default:
                return first;
        }
    }

    private void oneStatement() {
        for (int[] statement : allStatements()) {
            String text = "family a;family b;" + told(statement, "s");
            FeudBook book = Check.taught(text);
            check.same("kindOf of " + text, book.kindOf(0), statement[0]);
            check.same("firstClaimOf of " + text, book.firstClaimOf(0), statement[1]);
            check.same("secondClaimOf of " + text, book.secondClaimOf(0), statement[2]);
            List<int[]> standing = new ArrayList<>();
            standing.add(statement);
            compare(text, book, standing);
            check.same("isNeedless of " + text, book.isNeedless(0), book.peaces() == 4);
            book.breakStatement(0);
            compare(text + " broken", book, new ArrayList<>());
        }
    }

    private void twoStatements() {
        for (int[] one : allStatements()) {
            for (int[] two : allStatements()) {
                String text = "family a;family b;" + told(one, "s") + told(two, "t");
                List<int[]> standing = new ArrayList<>();
                standing.add(one);
                standing.add(two);
                compare(text, Check.taught(text), standing);
            }
        }
    }

    /** By how few statements each claim follows from each; 9 if it does not. */
    private static int[][] distances(List<int[]> standing) {
        int[][] d = new int[4][4];
        for (int from = 0; from < 4; from++) {
            for (int claim = 0; claim < 4; claim++) {
                d[from][claim] = from == claim ? 0 : 9;
            }
        }
        for (int[] statement : standing) {
            int x = statement[0] == 0 || statement[0] == 2 ? statement[1] ^ 1 : statement[1];
            int y = statement[0] == 2 ? statement[2] ^ 1 : statement[2];
            d[x ^ 1][y] = Math.min(d[x ^ 1][y], 1);
            d[y ^ 1][x] = Math.min(d[y ^ 1][x], 1);
        }
        for (int k = 0; k < 4; k++) {
            for (int from = 0; from < 4; from++) {
                for (int claim = 0; claim < 4; claim++) {
                    d[from][claim] = Math.min(d[from][claim], d[from][k] + d[k][claim]);
                }
            }
        }
        return d;
    }

    private void compare(String text, FeudBook book, List<int[]> standing) {
        compareClaims(text, book, standing);
        int told = -1;
        int count = 0;
        int riders = 0;
        int fewest = 3;
        for (int rides = 3; rides >= 0; rides--) {
            int broken = 0;
            for (int[] statement : standing) {
                broken += isKept(statement, rides) ? 0 : 1;
            }
            fewest = Math.min(fewest, broken);
            if (broken == 0) {
                told = told < 0 ? rides : told;
                count++;
                riders += Integer.bitCount(rides);
            }
        }
        check.same("peaces of " + text, book.peaces(), count);
        check.same("isPeacePossible of " + text, book.isPeacePossible(), count > 0);
        check.same("fewestToBreak of " + text, book.fewestToBreak(), fewest);
        check.sameDouble("meanRiders of " + text, book.meanRiders(), count == 0 ? 0.0 : (double) riders / count);
        if (count > 0) {
            check.same("a in the told peace of " + text, book.ridesInPeace(0), told >= 2);
            check.same("b in the told peace of " + text, book.ridesInPeace(1), told % 2 == 1);
            check.same("ridersInPeace of " + text, book.ridersInPeace(), Integer.bitCount(told));
        } else {
            int[][] d = distances(standing);
            check.same("blamedFamily of " + text, book.blamedFamily(), d[0][1] < 9 && d[1][0] < 9 ? 0 : 1);
        }
    }

    private void compareClaims(String text, FeudBook book, List<int[]> standing) {
        int[][] d = distances(standing);
        int parts = 0;
        int peaces = 0;
        for (int rides = 0; rides < 4; rides++) {
            peaces += isPeace(standing, rides) ? 1 : 0;
        }
        for (int claim = 0; claim < 4; claim++) {
            int size = 0;
            int reached = 0;
            int part = -1;
            for (int other = 0; other < 4; other++) {
                boolean follows = d[claim][other] < 9;
                check.same(other + " follows from " + claim + " by " + text, book.follows(other, claim), follows);
                if (follows) {
                    reached++;
                    check.same(other + " between from " + claim + " by " + text,
                            book.fewestStatementsBetween(other, claim), d[claim][other]);
                }
                if (follows && d[other][claim] < 9) {
                    size++;
                    part = part < 0 ? other : part;
                }
            }
            parts += part == claim ? 1 : 0;
            int with = 0;
            for (int rides = 0; rides < 4; rides++) {
                with += isPeace(standing, rides) && holds(claim, rides) ? 1 : 0;
            }
            check.same("whatFollowsFrom " + claim + " by " + text, book.whatFollowsFrom(claim), reached);
            check.same("partOf " + claim + " by " + text, book.partOf(claim), part);
            check.same("partSize " + claim + " by " + text, book.partSize(claim), size);
            check.same("peacesWith " + claim + " by " + text, book.peacesWith(claim), with);
            check.same("isPossible " + claim + " by " + text, book.isPossible(claim), with > 0);
            if (peaces > 0) {
                check.same("isSettled " + claim + " by " + text, book.isSettled(claim), with == peaces);
            }
        }
        check.same("parts by " + text, book.parts(), parts);
    }

    private static boolean isPeace(List<int[]> standing, int rides) {
        for (int[] statement : standing) {
            if (!isKept(statement, rides)) {
                return false;
            }
        }
        return true;
    }

    // ---- great books

    private void fullBook() {
        FeudBook book = Check.taught(LanguageTest.full());
        check.same("full: standing", book.standing(), 20);
        check.same("full: peaces", book.peaces(), 1);
        check.same("full: ridersInPeace", book.ridersInPeace(), 10);
        check.same("full: secondClaimOf(19)", book.secondClaimOf(19), 18);
        check.same("full: kindOf(19)", book.kindOf(19), 3);
        check.same("full: isNeedless(19)", book.isNeedless(19), true);
        check.same("full: isSettled(18)", book.isSettled(18), true);
        check.same("full: isSettled(19)", book.isSettled(19), false);
        check.same("full: ridesInPeace(9)", book.ridesInPeace(9), true);
        check.same("full: parts", book.parts(), 20);
        check.same("full: whatFollowsFrom(19)", book.whatFollowsFrom(19), 2);
        check.same("full: mostTellingOath", book.mostTellingOath(), 0);
        check.sameDouble("full: meanRiders", book.meanRiders(), 10.0);
        check.throwing("full: kindOf(20)", IndexOutOfBoundsException.class, book, () -> book.kindOf(20));
        check.throwing("full: partOf(20)", IndexOutOfBoundsException.class, book, () -> book.partOf(20));
        check.throwing("full: ridesInPeace(10)", IndexOutOfBoundsException.class, book, () -> book.ridesInPeace(10));
        // All broken one by one, and renewed.
        for (int s = 0; s < 20; s++) {
            check.same("full: break " + s, book.breakStatement(s), 19 - s);
            check.same("full: standing", book.standing(), 19 - s);
        }
        check.same("full: all broken", book.peaces(), 1024);
        check.same("full: all broken", book.peacesWith(19), 512);
        for (int s = 19; s >= 0; s--) {
            check.same("full: renew " + s, book.renewStatement(s), 20 - s);
        }
        check.same("full: all renewed", book.peaces(), 1);
        // In each row of ten rides and stays: just that one is the peace.
        for (int rides = 0; rides < 1024; rides += 31) {
            StringBuilder text = new StringBuilder(families(10));
            for (int f = 0; f < 10; f++) {
                text.append("oath o" + f + " f" + f + ((rides >> f & 1) == 1 ? " rides;" : " stays;"));
            }
            FeudBook one = Check.taught(text.toString());
            check.same("one of 1024", one.peaces(), 1);
            check.same("one of 1024: riders", one.ridersInPeace(), Integer.bitCount(rides));
            check.sameDouble("one of 1024: mean", one.meanRiders(), Integer.bitCount(rides));
            for (int f = 0; f < 10; f++) {
                check.same("one of 1024: " + f, one.ridesInPeace(f), (rides >> f & 1) == 1);
                check.same("one of 1024: with " + f, one.peacesWith(2 * f), rides >> f & 1);
                check.same("one of 1024: settled " + f, one.isSettled(2 * f + 1), (rides >> f & 1) == 0);
            }
        }
    }

    /** The longest way there can be: through all twenty claims. */
    private void chains() {
        StringBuilder text = new StringBuilder(families(10));
        for (int f = 0; f < 9; f++) {
            text.append("promise p" + f + " if f" + f + " rides then f" + (f + 1) + " rides;");
        }
        FeudBook book = Check.taught(text + "promise q if f9 rides then f9 stays;");
        for (int place = 0; place < 20; place++) {
            // The claims on the way: 0 2 4 .. 18 19 17 .. 1.
            int claim = place < 10 ? 2 * place : 39 - 2 * place;
            check.same("chain to " + claim, book.fewestStatementsBetween(claim, 0), place);
            check.same("chain from " + claim, book.fewestStatementsBetween(1, claim), 19 - place);
            check.same("chain whatFollowsFrom " + claim, book.whatFollowsFrom(claim), 20 - place);
        }
        check.same("chain parts", book.parts(), 20);
        check.same("chain peaces", book.peaces(), 1);
        check.same("chain ridersInPeace", book.ridersInPeace(), 0);
        check.throwing("chain back", IllegalStateException.class, book, () -> book.fewestStatementsBetween(0, 1));
        // A shorter way beside it, until it is broken.
        FeudBook two = Check.taught(text + "promise q if f0 rides then f9 rides;");
        check.same("short", two.fewestStatementsBetween(18, 0), 1);
        check.same("short", two.fewestStatementsBetween(16, 0), 8);
        two.breakStatement(9);
        check.same("long", two.fewestStatementsBetween(18, 0), 9);
        two.breakStatement(4);
        check.throwing("cut", IllegalStateException.class, two, () -> two.fewestStatementsBetween(18, 0));
        two.renewStatement(9);
        check.same("short again", two.fewestStatementsBetween(18, 0), 1);
        check.same("short again", two.fewestStatementsBetween(1, 19), 1);
    }

    /** All twenty claims in one part. */
    private void oneRing() {
        StringBuilder text = new StringBuilder(families(10));
        for (int f = 0; f < 9; f++) {
            text.append("promise p" + f + " if f" + f + " rides then f" + (f + 1) + " rides;");
        }
        text.append("promise q if f9 rides then f0 stays;promise r if f0 stays then f0 rides;");
        FeudBook book = Check.taught(text.toString());
        check.same("ring: parts", book.parts(), 1);
        check.same("ring: peaces", book.peaces(), 0);
        check.same("ring: blamedFamily", book.blamedFamily(), 0);
        for (int claim = 0; claim < 20; claim++) {
            check.same("ring: partOf " + claim, book.partOf(claim), 0);
            check.same("ring: partSize " + claim, book.partSize(claim), 20);
            check.same("ring: whatFollowsFrom " + claim, book.whatFollowsFrom(claim), 20);
        }
        check.same("ring: fewestToBreak", book.fewestToBreak(), 1);
        // Two rings, of the riding and of the staying.
        book = Check.taught(text.toString().replace("then f0 stays;promise r if f0 stays", "then f0 rides;promise r if f0 rides"));
        check.same("rings: parts", book.parts(), 2);
        check.same("rings: partOf(18)", book.partOf(18), 0);
        check.same("rings: partOf(19)", book.partOf(19), 1);
        check.same("rings: partSize(19)", book.partSize(19), 10);
        check.same("rings: peaces", book.peaces(), 2);
    }

    private void needless() {
        FeudBook book = Check.taught("family a;oath o a rides;oath p a rides;pact t either a rides or a stays;");
        check.same("needless o", book.isNeedless(0), true);
        check.same("needless p", book.isNeedless(1), true);
        check.same("needless t", book.isNeedless(2), true);
        book.breakStatement(0);
        check.same("needless p alone", book.isNeedless(1), false);
        check.throwing("needless broken", IllegalStateException.class, book, () -> book.isNeedless(0));
        book.renewStatement(0);
        check.same("needless o again", book.isNeedless(0), true);
        // Without a peace: needless if there is none without it, either.
        FeudBook torn = Check.taught("family a;oath o a rides;oath p a stays;oath q a stays;");
        check.same("no peace: o", torn.isNeedless(0), false);
        check.same("no peace: p", torn.isNeedless(1), true);
        torn.breakStatement(2);
        check.same("no peace: p", torn.isNeedless(1), false);
    }

    private void toldPeace() {
        // f0 rides if it can, then f1, and so on: each keeps the next one at home.
        StringBuilder text = new StringBuilder(families(10));
        for (int f = 0; f < 9; f++) {
            text.append("feud p" + f + " f" + f + " rides with f" + (f + 1) + " rides;");
        }
        FeudBook book = Check.taught(text.toString());
        for (int f = 0; f < 10; f++) {
            check.same("every second " + f, book.ridesInPeace(f), f % 2 == 0);
        }
        check.same("every second", book.ridersInPeace(), 5);
        book = Check.taught(text + "oath o f0 stays;");
        for (int f = 0; f < 10; f++) {
            check.same("every other " + f, book.ridesInPeace(f), f % 2 == 1);
        }
        book = Check.taught(text + "oath o f9 rides;");
        check.same("the last has sworn", book.ridesInPeace(8), false);
        check.same("the last has sworn", book.ridesInPeace(6), true);
        check.same("the last has sworn", book.ridersInPeace(), 5);
    }

    private void blamed() {
        for (int f = 0; f < 10; f++) {
            FeudBook book = Check.taught(families(10) + "oath o f" + f + " rides;oath p f" + f + " stays;");
            check.same("blamed " + f, book.blamedFamily(), f);
            check.same("blamed " + f + " peaces", book.peaces(), 0);
            book.breakStatement(1);
            check.throwing("blamed none", IllegalStateException.class, book, book::blamedFamily);
        }
        // That one of its claims follows from the other is not enough.
        FeudBook book = Check.taught(families(3) + "oath a f0 rides;oath b f1 stays;oath c f2 rides;oath d f2 stays;");
        check.same("blamed of three", book.blamedFamily(), 2);
    }

    private void byHand() {
        FeudBook book = Check.taught(A + "oath p a rides;break o when day=0;");
        check.same("break", book.breakStatement(0), 1);
        check.throwing("break again", IllegalStateException.class, book, () -> book.breakStatement(0));
        check.same("the order changes nothing", book.passDays(1), 0);
        check.same("renew", book.renewStatement(0), 2);
        check.throwing("renew again", IllegalStateException.class, book, () -> book.renewStatement(0));
        check.same("break the last", book.breakStatement(1), 1);
        check.same("break the last", book.breakStatement(0), 0);
        check.same("none stands", book.standing(), 0);
        check.same("not carried out", book.ordersCarriedOut(), 0);
        check.same("no day", book.days(), 1);
    }

    // ---- days and what would be

    private void daysOneAndThirty() {
        String told = A + "family b;oath p b stays;feud f a rides with b stays;break o when day/7*7=day;"
                + "renew o when day/5*5=day and day>0;break p when day=13;renew p when peaces=1 and day>17;";
        for (int ahead = 0; ahead <= 30; ahead += 3) {
            int gone = ahead;
            Supplier<FeudBook> make = () -> {
                FeudBook book = Check.taught(told);
                if (gone > 0) {
                    book.passDays(gone);
                }
                return book;
            };
            for (int days = 1; days <= 30; days++) {
                FeudBook book = make.get();
                int standing = book.standingAfter(days);
                int peaces = book.peacesAfter(days);
                int before = book.ordersCarriedOut();
                int carriedOut = book.passDays(days);
                String where = ahead + " and " + days + " days";
                check.same(where, book.standing(), standing);
                check.same(where, book.peaces(), peaces);
                check.same(where, book.ordersCarriedOut(), before + carriedOut);
                check.same(where, book.days(), ahead + days);
                FeudBook other = make.get();
                int oneByOne = 0;
                for (int n = 0; n < days; n++) {
                    oneByOne += other.passDays(1);
                }
                check.same(where + " one by one", oneByOne, carriedOut);
                check.same(where + " one by one", other.digest(), book.digest());
            }
        }
        FeudBook book = Check.taught(told);
        for (int days : new int[] {Integer.MIN_VALUE, -1, 0, 31, Integer.MAX_VALUE}) {
            check.throwing("passDays " + days, IllegalArgumentException.class, book, () -> book.passDays(days));
            check.throwing("standingAfter " + days, IllegalArgumentException.class, book, () -> book.standingAfter(days));
            check.throwing("peacesAfter " + days, IllegalArgumentException.class, book, () -> book.peacesAfter(days));
        }
    }

    private void untilPeace() {
        String torn = "family a;oath o a rides;oath p a stays;";
        for (int day = 0; day < 40; day++) {
            FeudBook book = Check.taught(torn + "break p when day=" + day + ";");
            check.same("until " + day, book.daysUntilPeace(), day < 30 ? day + 1 : -1);
            check.same("until " + day + ": nothing is changed", book.days() + book.ordersCarriedOut(), 0);
            book.passDays(7);
            check.same("until " + day + " from 7", book.daysUntilPeace(),
                    day < 7 ? 0 : day < 37 ? day - 6 : -1);
        }
        // Now counts, though it is over on the next day; and a peace that ends within a day does not.
        FeudBook book = Check.taught(torn + "break p when day=3;renew p when day=4;break o when day=9;renew o when day=9;");
        check.same("until 4", book.daysUntilPeace(), 4);
        book.passDays(4);
        check.same("now", book.daysUntilPeace(), 0);
        book.passDays(1);
        check.same("never again", book.daysUntilPeace(), -1);
        book.breakStatement(0);
        check.same("by hand", book.daysUntilPeace(), 0);
    }

    private void toBreak() {
        StringBuilder text = new StringBuilder("family a;");
        for (int n = 0; n < 10; n++) {
            text.append("oath r" + n + " a rides;oath s" + n + " a stays;");
        }
        // As many standing oaths of the one kind as of the other: all of one kind have to be broken.
        for (int rides = 0; rides <= 4; rides++) {
            for (int stays = 0; stays <= 4; stays++) {
                FeudBook book = Check.taught(text.toString());
                for (int n = 0; n < 10; n++) {
                    if (n >= rides) {
                        book.breakStatement(2 * n);
                    }
                    if (n >= stays) {
                        book.breakStatement(2 * n + 1);
                    }
                }
                int fewest = Math.min(rides, stays);
                check.same(rides + " ride and " + stays + " stay", book.fewestToBreak(), fewest > 2 ? -1 : fewest);
                check.same("nothing is changed", book.standing(), rides + stays);
            }
        }
        // Of two torn families one statement of each; of one statement in both only that one.
        check.same("two families", Check.taught(families(2) + "oath a f0 rides;oath b f0 stays;oath c f1 rides;"
                + "oath d f1 stays;").fewestToBreak(), 2);
        check.same("one in both", Check.taught(families(2) + "oath a f0 rides;oath b f1 rides;"
                + "feud c f0 rides with f1 rides;").fewestToBreak(), 1);
        check.same("three families", Check.taught(families(3) + "oath a f0 rides;oath b f0 stays;oath c f1 rides;"
                + "oath d f1 stays;oath e f2 rides;oath f f2 stays;").fewestToBreak(), -1);
        check.same("without a statement", Check.taught(families(10)).fewestToBreak(), 0);
        check.same("all twenty", Check.taught(text.toString()).fewestToBreak(), -1);
    }

    private void oaths() {
        // Of a b c each pair: who holds in the fewest, the smallest number of several.
        check.same("a stays", Check.taught("family a;family b;pact p either a rides or b rides;").mostTellingOath(), 1);
        check.same("b rides", Check.taught("family a;family b;family c;oath o a rides;feud p b rides with c rides;"
                + "promise q if b rides then c stays;").mostTellingOath(), 2);
        check.same("none that holds in no peace", Check.taught("family a;oath o a stays;").mostTellingOath(), 1);
        check.same("all alike", Check.taught(families(10)).mostTellingOath(), 0);
        check.same("the last claim", Check.taught(families(10) + "promise p if f9 stays then f8 stays;"
                + "promise q if f9 stays then f0 stays;promise r if f9 stays then f8 stays;").mostTellingOath(), 19);
        FeudBook torn = Check.taught("family a;oath o a rides;oath p a stays;");
        check.throwing("torn", IllegalStateException.class, torn, torn::mostTellingOath);
    }

    private void mean() {
        check.sameDouble("none rides", Check.taught("family a;oath o a stays;").meanRiders(), 0.0);
        check.sameDouble("no peace", Check.taught("family a;oath o a stays;oath p a rides;").meanRiders(), 0.0);
        check.sameDouble("one of three", Check.taught("family a;family b;feud p a rides with b rides;").meanRiders(),
                2.0 / 3.0);
        check.sameDouble("of 768", Check.taught(families(10) + "pact p either f0 rides or f9 rides;").meanRiders(),
                4096.0 / 768.0);
        check.sameDouble("of 768", Check.taught(families(10) + "feud p f3 rides with f7 rides;").meanRiders(),
                3584.0 / 768.0);
    }

    /** The checksum, of what the other calls answer. */
    private static long digestOf(FeudBook book) {
        long d = 947;
        for (int x : new int[] {book.families(), book.statements(), book.orders(), book.days(), book.ordersCarriedOut(),
            book.tapeBytes(), book.standing(), book.parts(), book.peaces()}) {
            d = d * 31 + x;
        }
        for (int s = 0; s < book.statements(); s++) {
            for (int x : new int[] {book.kindOf(s), book.firstClaimOf(s), book.secondClaimOf(s), book.stands(s) ? 1 : 0}) {
                d = d * 31 + x;
            }
        }
        for (int c = 0; c < 2 * book.families(); c++) {
            for (int x : new int[] {book.whatFollowsFrom(c), book.partOf(c), book.peacesWith(c)}) {
                d = d * 31 + x;
            }
        }
        for (int f = 0; f < book.families() && book.isPeacePossible(); f++) {
            d = d * 31 + (book.ridesInPeace(f) ? 1 : 0);
        }
        return d;
    }

    private void digests() {
        check.same("digest of nothing", new FeudBook().digest(), digestOf(new FeudBook()));
        FeudBook full = Check.taught(LanguageTest.full());
        check.same("digest of the full book", full.digest(), digestOf(full));
        full.passDays(30);
        full.breakStatement(3);
        full.feed(1, 2, 3, 4, 5);
        check.same("digest of the full book, later", full.digest(), digestOf(full));
        FeudBook torn = Check.taught(families(10) + "oath o f9 rides;oath p f9 stays;");
        check.same("digest without a peace", torn.digest(), digestOf(torn));
        // Each single thing that is counted changes it.
        String[] alike = {"family a;", "family a;family b;", "family a;oath o a rides;", "family a;oath o a stays;",
            "family a;oath o a rides;break o;", "family a;pact o either a rides or a rides;",
            "family a;promise o if a stays then a rides;", "family a;feud o a stays with a stays;"};
        for (int n = 0; n < alike.length; n++) {
            FeudBook one = Check.taught(alike[n]);
            check.same("digest of " + alike[n], one.digest(), digestOf(one));
            for (int m = 0; m < n; m++) {
                check.same("digest of others", one.digest() == Check.taught(alike[m]).digest(), false);
            }
            long before = one.digest();
            one.passDays(1);
            check.same("digest of a day later", one.digest() == before, false);
            before = one.digest();
            one.feed(0, 0, 0, 0, 0);
            check.same("digest with a tape", one.digest() == before, false);
            check.same("digest with a tape", one.digest(), digestOf(one));
        }
    }

    /** The 512th call is answered like any other. */
    private void calls512() {
        FeudBook book = new FeudBook();
        String text = families(3) + "oath o f0 rides;break o when day=3;renew o when day=4;";
        Check.feed(book, text);
        book.teach();
        // What Check.feed has called: tapeBytes() twice, feed() and perhaps trim(); and teach().
        int calls = 2 + (text.length() + 19) / 20 + 1 + 1;
        boolean stands = true;
        while (calls < 511) {
            if (stands) {
                book.breakStatement(0);
            } else {
                book.renewStatement(0);
            }
            stands = !stands;
            calls++;
        }
        FeudBook other = Check.taught(text);
        if (!stands) {
            other.breakStatement(0);
        }
        check.same("the 512th call", book.digest(), other.digest());
    }
}
