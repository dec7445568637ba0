import java.lang.reflect.Constructor;
import java.lang.reflect.Field;
import java.lang.reflect.InvocationTargetException;
import java.lang.reflect.Method;
import java.lang.reflect.Modifier;
import java.nio.file.Files;
import java.nio.file.Paths;
import java.util.ArrayList;
import java.util.Arrays;
import java.util.List;
import java.util.TreeSet;

/** The class has just the document's face, throws nothing else, and makes no rows in its calls. */
public final class FaceTest {
    private static final String STATE = " IllegalStateException";
    private static final String INDEX = " IndexOutOfBoundsException";
    private static final String ARGUMENT = " IllegalArgumentException";
    private static final String[] FACE = {
        "int feed(int,int,int,int,int)" + STATE, "int trim(int)" + ARGUMENT, "int teach()",
        "int errorAt()", "int families()", "int statements()", "int orders()", "int days()",
        "int ordersCarriedOut()", "int tapeBytes()", "int standing()", "int kindOf(int)" + INDEX,
        "int firstClaimOf(int)" + INDEX, "int secondClaimOf(int)" + INDEX, "boolean stands(int)" + INDEX,
        "boolean isNeedless(int)" + INDEX + STATE, "boolean follows(int,int)" + INDEX,
        "int whatFollowsFrom(int)" + INDEX, "int fewestStatementsBetween(int,int)" + INDEX + STATE,
        "int parts()", "int partOf(int)" + INDEX, "int partSize(int)" + INDEX,
        "boolean isPeacePossible()", "int peaces()", "int peacesWith(int)" + INDEX,
        "boolean isPossible(int)" + INDEX, "boolean isSettled(int)" + INDEX + STATE,
        "boolean ridesInPeace(int)" + INDEX + STATE, "int ridersInPeace()" + STATE,
        "int blamedFamily()" + STATE, "int breakStatement(int)" + INDEX + STATE,
        "int renewStatement(int)" + INDEX + STATE, "int passDays(int)" + ARGUMENT,
        "int standingAfter(int)" + ARGUMENT, "int peacesAfter(int)" + ARGUMENT, "int daysUntilPeace()",
        "int fewestToBreak()", "int mostTellingOath()" + STATE, "double meanRiders()", "long digest()"};
    private static final int[] ARGUMENTS = {Integer.MIN_VALUE, -2001, -32, -31, -1, 0, 1, 2, 3, 5, 7, 15, 16,
        18, 19, 20, 21, 29, 30, 31, 32, 63, 64, 400, 1999, 2000, 2001, 1 << 16, Integer.MAX_VALUE};

    private final Check check = new Check();
    private long seed = 5;

    public static void main(String[] args) throws Exception {
        FaceTest test = new FaceTest();
        test.face();
        test.source();
        test.wildCalls();
        test.check.finish("FaceTest");
    }

    private int below(int n) {
        seed = seed * 6364136223846793005L + 1442695040888963407L;
        return (int) ((seed >>> 33) % n);
    }

    private void face() {
        check.same("public", FeudBook.class.getModifiers(), Modifier.PUBLIC | Modifier.FINAL);
        TreeSet<String> got = new TreeSet<>();
        TreeSet<String> open = new TreeSet<>();
        TreeSet<String> hidden = new TreeSet<>();
        for (Method method : FeudBook.class.getDeclaredMethods()) {
            if (Modifier.isPrivate(method.getModifiers())) {
                hidden.add(method.getName());
            } else {
                check.same("modifiers of " + method, method.getModifiers(), Modifier.PUBLIC);
                got.add(describe(method));
                open.add(method.getName());
            }
        }
        TreeSet<String> due = new TreeSet<>(Arrays.asList(FACE));
        if (!got.equals(due)) {
            check.report("the face is " + got + ", due is " + due);
        }
        for (Class<?> inner : FeudBook.class.getDeclaredClasses()) {
            check.same(inner + " is static", Modifier.isStatic(inner.getModifiers()), true);
            for (Method method : inner.getDeclaredMethods()) {
                hidden.add(method.getName());
            }
        }
        hidden.retainAll(open);
        check.same("hidden methods with a public name: " + hidden, hidden.size(), 0);
        Constructor<?>[] constructors = FeudBook.class.getDeclaredConstructors();
        check.same("constructors", constructors.length, 1);
        check.same("constructor", constructors[0].getModifiers(), Modifier.PUBLIC);
        for (Field field : FeudBook.class.getDeclaredFields()) {
            int modifiers = field.getModifiers();
            check.same(field + " is private", Modifier.isPrivate(modifiers), true);
            check.same(field + " is final if static",
                    !Modifier.isStatic(modifiers) || Modifier.isFinal(modifiers), true);
        }
    }

    private static String describe(Method method) {
        StringBuilder text = new StringBuilder(method.getReturnType() + " " + method.getName() + "(");
        for (int i = 0; i < method.getParameterCount(); i++) {
            text.append(i == 0 ? "" : ",").append(method.getParameterTypes()[i]);
        }
        text.append(")");
        for (Class<?> thrown : method.getExceptionTypes()) {
            text.append(" ").append(thrown.getSimpleName());
        }
        return text.toString();
    }

    /** Words that LANGUAGE.md rules out; and "new" stands in the making of an object alone. */
    private void source() throws Exception {
        List<String> lines = Files.readAllLines(Paths.get("src/main/java/FeudBook.java"));
        String[] words = {"import ", "package ", "->", "::", "finally", "synchronized", "assert ",
            "try {", "catch", "Exact", "System.", "instanceof", "\" +", "+ \"", "Object", "protected "};
        for (int n = 0; n < lines.size(); n++) {
            String line = lines.get(n).trim();
            if (line.startsWith("*") || line.startsWith("/*") || line.startsWith("//")) {
                continue;
            }
            for (String word : words) {
                if (line.contains(word)) {
                    check.report("line " + (n + 1) + " has " + word);
                }
            }
            if (line.matches(".*\\bnew\\b.*") && !line.startsWith("private final ")
                    && !line.startsWith("throw new ") && !line.contains("new long[KEYWORD_COUNT]")) {
                check.report("line " + (n + 1) + " makes something: " + line);
            }
        }
    }

    /** Any calls with any arguments: what is thrown is just what the face names. */
    private void wildCalls() throws Exception {
        List<Method> methods = new ArrayList<>();
        for (Method method : FeudBook.class.getDeclaredMethods()) {
            if (Modifier.isPublic(method.getModifiers())) {
                methods.add(method);
            }
        }
        methods.sort((a, b) -> a.getName().compareTo(b.getName()));
        for (int run = 0; run < 300; run++) {
            FeudBook book = new FeudBook();
            for (int call = 0; call < 512; call++) {
                if (call % 100 == 3) {
                    Check.teach(book, run % 3 == 0 ? LanguageTest.full() : "family a; family b;"
                            + "feud f a rides with b rides; oath o a rides; pact p either a stays or b rides;"
                            + "break o when day / (day - 3) > 1 or not possible b rides; renew o when parts = 4;");
                }
                wildCall(book, methods.get(below(methods.size())));
            }
        }
    }

    private void wildCall(FeudBook book, Method method) throws Exception {
        Object[] arguments = new Object[method.getParameterCount()];
        for (int i = 0; i < arguments.length; i++) {
            arguments[i] = below(3) == 0 ? below(22) : ARGUMENTS[below(ARGUMENTS.length)];
        }
        try {
            method.invoke(book, arguments);
        } catch (InvocationTargetException e) {
            Class<?> thrown = e.getCause().getClass();
            check.same(method + " throws " + thrown,
                    Arrays.asList(method.getExceptionTypes()).contains(thrown), true);
        }
    }
}
