import java.io.IOException;
import java.net.URL;
import java.net.URLClassLoader;
import java.nio.file.Files;
import java.nio.file.Path;
import java.util.ArrayList;
import java.util.List;
import java.util.Set;
import java.util.TreeSet;
import java.util.regex.Matcher;
import java.util.regex.Pattern;
import java.util.stream.Stream;
import javax.tools.ToolProvider;

/** README.md as it stands: its examples answer what is written behind them, and its table has every test. */
public final class ReadmeTest {
    private static final Pattern BLOCK = Pattern.compile("```java\n(.*?)```", Pattern.DOTALL);
    private static final Pattern ANSWERED = Pattern.compile("(?:int (\\w+) = )?(.+);\\s+// (-?\\d+|true|false)\\b.*");

    private final List<String> lines = new ArrayList<>();
    private final List<Long> due = new ArrayList<>();
    private final StringBuilder members = new StringBuilder();
    private final StringBuilder statements = new StringBuilder();

    public static void main(String[] args) throws IOException, ReflectiveOperationException {
        Path root = Path.of(args.length > 0 ? args[0] : ".");
        String page = Files.readString(root.resolve("README.md"));
        new ReadmeTest().examples(page);
        table(page, root);
        Check.end("ReadmeTest");
    }

    private void examples(String page) throws IOException, ReflectiveOperationException {
        Matcher block = BLOCK.matcher(page);
        while (block.find()) {
            if (block.group(1).startsWith("static ")) {
                members.append(block.group(1));
            } else {
                block.group(1).lines().forEach(this::statement);
            }
        }
        Check.due("README.md has examples", lines.size() > 20, true);
        long[] got = answers();
        for (int i = 0; i < lines.size(); i++) {
            Check.due("README.md: " + lines.get(i), got[i], due.get(i));
        }
    }

    private void statement(String line) {
        Matcher answered = ANSWERED.matcher(line);
        if (!answered.matches()) {
            statements.append(line).append('\n');
            return;
        }
        String variable = answered.group(1);
        if (variable != null) {
            statements.append("int ").append(variable).append(" = ").append(answered.group(2)).append(";\n");
        }
        statements.append("all[").append(lines.size()).append("] = number(")
            .append(variable == null ? answered.group(2) : variable).append(");\n");
        lines.add(line);
        String want = answered.group(3);
        due.add(want.equals("true") ? 1 : want.equals("false") ? 0 : Long.parseLong(want));
    }

    private long[] answers() throws IOException, ReflectiveOperationException {
        String source = "public final class Examples {\n"
            + "static long number(long n) { return n; }\nstatic long number(boolean b) { return b ? 1 : 0; }\n" + members
            + "public static long[] answers() {\nlong[] all = new long[" + lines.size() + "];\n" + statements
            + "return all;\n}\n}\n";
        Path made = Files.createTempDirectory("readme");
        try {
            Path file = Files.writeString(made.resolve("Examples.java"), source);
            int failed = ToolProvider.getSystemJavaCompiler().run(null, null, null, "-proc:none", "-cp",
                System.getProperty("java.class.path"), "-d", made.toString(), file.toString());
            Check.due("the examples don't compile", failed, 0);
            if (failed != 0) {
                return new long[lines.size()];
            }
            try (URLClassLoader loader = new URLClassLoader(new URL[] {made.toUri().toURL()})) {
                return (long[]) loader.loadClass("Examples").getMethod("answers").invoke(null);
            }
        } finally {
            for (String name : List.of("Examples.java", "Examples.class")) {
                Files.deleteIfExists(made.resolve(name));
            }
            Files.deleteIfExists(made);
        }
    }

    private static void table(String page, Path root) throws IOException {
        Set<String> told = new TreeSet<>();
        Matcher row = Pattern.compile("(?m)^\\| `(\\w+)` \\|").matcher(page);
        while (row.find()) {
            told.add(row.group(1));
        }
        Set<String> there = new TreeSet<>();
        try (Stream<Path> files = Files.list(root.resolve("src/test/java"))) {
            files.map(f -> f.getFileName().toString()).filter(f -> f.endsWith("Test.java"))
                .forEach(f -> there.add(f.substring(0, f.length() - 5)));
        }
        Check.due("the table of tests", told.toString(), there.toString());
        Check.due("README.md names what runs the tests", page.contains("`.ci/run`")
            && Files.isExecutable(root.resolve(".ci/run")), true);
    }
}
