import java.io.ByteArrayOutputStream;
import java.io.IOException;
import java.io.PrintStream;
import java.lang.reflect.Method;
import java.lang.reflect.Modifier;
import java.nio.file.Files;
import java.nio.file.Path;
import java.util.ArrayList;
import java.util.List;

/** README.md tells every call, and its example is the one of Example, which prints what the README says. */
public final class ReadmeTest {
    private static final Path README = Path.of("README.md");
    private static final Path EXAMPLE = Path.of("src/test/java/Example.java");
    private static final String PRINTS = "System.out.println(";
    private static final String INDENT = "        ";

    private static Check check;

    public static void main(String[] args) throws IOException {
        check = new Check("ReadmeTest");
        String readme = Files.readString(README);
        everyCallIsTold(readme);
        List<String> told = linesBetween(readme, "```java", "```");
        theExampleIsTheSame(told);
        theExamplePrintsWhatIsTold(told);
        check.yes("how to run the tests", readme.contains(".ci/run"));
        everyTestIsTold(readme);
        check.end();
    }

    private static void everyCallIsTold(String readme) {
        for (Method m : WaveletSlices.class.getDeclaredMethods()) {
            if (Modifier.isPublic(m.getModifiers())) {
                check.yes(m.getName() + " is told", readme.contains("`" + m.getName() + "("));
            }
        }
        check.yes("NONE is told", readme.contains("`NONE`"));
    }

    private static void everyTestIsTold(String readme) throws IOException {
        try (var files = Files.list(Path.of("src/test/java"))) {
            for (Path file : files.toList()) {
                String name = file.getFileName().toString().replace(".java", "");
                check.yes(name + " is told", readme.contains("`" + name + "`"));
            }
        }
    }

    private static void theExampleIsTheSame(List<String> told) throws IOException {
        List<String> code = new ArrayList<>();
        for (String line : linesBetween(Files.readString(EXAMPLE), "    static void run() {", "    }")) {
            code.add(line.startsWith(INDENT) ? line.substring(INDENT.length()) : line);
        }
        check.due("lines of the example", told.size(), code.size());
        for (int i = 0; i < Math.min(told.size(), code.size()); i++) {
            check.yes("the README's line is the example's: " + told.get(i), told.get(i).equals(code.get(i)));
        }
    }

    private static void theExamplePrintsWhatIsTold(List<String> told) {
        List<String> due = new ArrayList<>();
        for (String line : told) {
            if (line.startsWith(PRINTS)) {
                due.add(line.substring(line.indexOf("//") + 2).trim().split("[ ,:]")[0]);
            }
        }
        List<String> printed = List.of(whatTheExamplePrints().split("\\R"));
        check.yes("the example prints " + printed + ", the README says " + due, printed.equals(due));
    }

    private static String whatTheExamplePrints() {
        PrintStream out = System.out;
        ByteArrayOutputStream bytes = new ByteArrayOutputStream();
        System.setOut(new PrintStream(bytes, true));
        Example.run();
        System.setOut(out);
        return bytes.toString();
    }

    private static List<String> linesBetween(String text, String first, String last) {
        List<String> lines = new ArrayList<>();
        boolean inside = false;
        for (String line : text.split("\\R")) {
            if (inside && line.equals(last)) {
                return lines;
            }
            if (inside) {
                lines.add(line);
            }
            inside = inside || line.equals(first);
        }
        check.yes("a stretch from " + first + " to " + last, false);
        return lines;
    }
}
