import java.io.ByteArrayOutputStream;
import java.io.IOException;
import java.io.PrintStream;
import java.nio.file.Files;
import java.nio.file.Paths;
import java.util.ArrayList;
import java.util.List;

/** The example of README.md: it is Example.java, and prints what its comments say; and the calls that it names. */
public final class ReadmeTest {
    private final Check check = new Check();

    public static void main(String[] args) throws IOException {
        ReadmeTest test = new ReadmeTest();
        List<String> readme = Files.readAllLines(Paths.get("README.md"));
        List<String> example = fenced(readme, "```java");
        test.isTheFile(example);
        test.printsWhatItSays(example);
        test.tellsRightLines(readme);
        test.namesEachCall(readme);
        test.namesEachTest(readme);
        test.check.finish("ReadmeTest");
    }

    /** The lines of the first block that begins with the sign. */
    private static List<String> fenced(List<String> lines, String sign) {
        int start = lines.indexOf(sign) + 1;
        int end = start;
        while (start > 0 && end < lines.size() && !lines.get(end).equals("```")) {
            end++;
        }
        return lines.subList(start, end);
    }

    private void isTheFile(List<String> example) throws IOException {
        List<String> file = Files.readAllLines(Paths.get("src/test/java/Example.java"));
        int start = 0;
        while (start < file.size() && !file.get(start).startsWith("public class")) {
            start++;
        }
        check.same("example of README.md", example, file.subList(start, file.size()));
    }

    private void printsWhatItSays(List<String> example) {
        List<String> due = new ArrayList<>();
        for (String line : example) {
            if (line.contains("System.out.println")) {
                due.add(line.substring(line.lastIndexOf("//") + 2).trim());
            }
        }
        check.same("some lines are printed", due.size() > 10, true);
        check.same("what the example prints", printed(), due);
    }

    private static List<String> printed() {
        PrintStream console = System.out;
        ByteArrayOutputStream bytes = new ByteArrayOutputStream();
        System.setOut(new PrintStream(bytes, true));
        Example.main(new String[0]);
        System.out.flush();
        System.setOut(console);
        return new ArrayList<>(bytes.toString().lines().toList());
    }

    /** The lines of the table of what a book says are a book, one behind the other. */
    private void tellsRightLines(List<String> readme) {
        StringBuilder text = new StringBuilder();
        for (String line : readme) {
            if (line.startsWith("| `")) {
                text.append(line, 3, line.indexOf("`", 3)).append('\n');
            }
        }
        FeudBook book = new FeudBook();
        check.same("lines of README.md", Check.teach(book, text.toString()), -1);
        check.same("lines of README.md, families", book.families(), 2);
        check.same("lines of README.md, statements", book.statements(), 4);
        check.same("lines of README.md, orders", book.orders(), 2);
    }

    private void namesEachCall(List<String> readme) {
        String text = String.join("\n", readme);
        for (java.lang.reflect.Method method : FeudBook.class.getDeclaredMethods()) {
            if (java.lang.reflect.Modifier.isPublic(method.getModifiers())) {
                check.same("README.md names " + method.getName(), text.contains("`" + method.getName() + "`"), true);
            }
        }
    }

    private void namesEachTest(List<String> readme) throws IOException {
        String text = String.join("\n", readme);
        try (java.util.stream.Stream<java.nio.file.Path> files = Files.list(Paths.get("src/test/java"))) {
            for (java.nio.file.Path file : (Iterable<java.nio.file.Path>) files.sorted()::iterator) {
                String name = file.getFileName().toString();
                check.same("README.md names " + name, text.contains(name), true);
            }
        }
    }
}
