import java.io.ByteArrayOutputStream;
import java.io.IOException;
import java.io.PrintStream;
import java.lang.reflect.Method;
import java.lang.reflect.Modifier;
import java.nio.charset.StandardCharsets;
import java.nio.file.Files;
import java.nio.file.Path;
import java.util.List;
import java.util.TreeSet;
import java.util.regex.Matcher;
import java.util.regex.Pattern;
import java.util.stream.Collectors;
import java.util.stream.Stream;

/** README.md against the program: its example, what that prints, the calls and the texts that it tells, and its tests. */
final class ReadmeTest {
    private static final Path TESTS = Path.of("src/test/java");

    public static void main(String[] args) throws IOException {
        String readme = Files.readString(Path.of("README.md"));
        Kit.part("README.md");
        Kit.is("it shows the example", readme.contains("```java\n" + Files.readString(TESTS.resolve("Example.java")) + "```"), true);
        Kit.is("it shows what the example prints", readme.contains("```text\n" + printed() + "```"), true);
        calls(readme);
        texts(readme);
        tests(readme);
        Kit.close();
    }

    private static String printed() {
        PrintStream before = System.out;
        ByteArrayOutputStream bytes = new ByteArrayOutputStream();
        System.setOut(new PrintStream(bytes, true, StandardCharsets.UTF_8));
        try {
            Example.main(new String[0]);
        } finally {
            System.setOut(before);
        }
        return bytes.toString(StandardCharsets.UTF_8).replace(System.lineSeparator(), "\n");
    }

    /** Each call of the face, with as many arguments as it takes, and no other one. */
    private static void calls(String readme) {
        TreeSet<String> due = new TreeSet<>();
        for (Method method : OsierHolt.class.getDeclaredMethods()) {
            if (Modifier.isPublic(method.getModifiers())) {
                due.add(method.getName() + "/" + method.getParameterCount());
            }
        }
        TreeSet<String> told = new TreeSet<>();
        Matcher matcher = Pattern.compile("`([a-z]+)\\(([^)`]*)\\)`").matcher(readme);
        while (matcher.find()) {
            int arguments = matcher.group(2).isEmpty() ? 0 : matcher.group(2).split(",").length;
            told.add(matcher.group(1) + "/" + arguments);
        }
        Kit.is("the calls that it tells", told, due);
    }

    /** Each LINE that it gives as an example of a text can stand in one. */
    private static void texts(String readme) {
        for (String row : readme.split("\n")) {
            boolean holt = row.startsWith("| `holt()`");
            if (holt || row.startsWith("| `law()`")) {
                List<String> lines = Pattern.compile("`([^`;]+)`").matcher(row).results().skip(1)
                    .map(line -> line.group(1)).collect(Collectors.toList());
                Kit.is("LINES in " + row, lines.size(), holt ? 9 : 3);
                String text = String.join(";", lines);
                if (holt) {
                    Kit.rightHolt(text);
                } else {
                    Kit.rightLaw(text);
                }
            }
        }
    }

    private static void tests(String readme) throws IOException {
        try (Stream<Path> files = Files.list(TESTS)) {
            for (Path file : files.collect(Collectors.toList())) {
                String name = file.getFileName().toString().replace(".java", "");
                Kit.is("it tells of " + name, !name.endsWith("Test") || readme.contains("`" + name + "`"), true);
            }
        }
    }
}
