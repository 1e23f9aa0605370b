import java.io.IOException;
import java.io.StringWriter;
import java.net.URI;
import java.net.URLClassLoader;
import java.nio.file.Files;
import java.nio.file.Path;
import java.util.List;
import java.util.Set;
import java.util.TreeSet;
import java.util.regex.Matcher;
import java.util.regex.Pattern;
import javax.tools.JavaCompiler;
import javax.tools.JavaFileObject;
import javax.tools.SimpleJavaFileObject;
import javax.tools.ToolProvider;

/** What README.md says is so as it is written there: its lines of Java answer so, its files are there. */
public final class ReadmeTest {
    private static final Path README = Path.of("README.md");
    private static final Path TESTS = Path.of("src/test/java");
    private static final Pattern ANSWERS =
            Pattern.compile("(?:int (\\w+) = )?(x\\.\\w+\\(.*\\)); +// (-?\\d+)(?::.*)?");
    private static int wrong;

    private ReadmeTest() {
    }

    public static void main(String[] args) throws Exception {
        String page = Files.readString(README);
        plays(page);
        files(page);
        classes(page);
        commands(page);
        System.out.println(wrong == 0 ? "README.md is as it is" : wrong + " things in README.md aren't so");
        if (wrong != 0) {
            System.exit(1);
        }
    }

    private static void check(boolean right, String told) {
        if (!right) {
            wrong++;
            System.out.println("README.md: " + told);
        }
    }

    /** A line of the example that told an answer calls this with it. */
    public static int due(String line, int got, int due) {
        check(got == due, line + " answers " + got);
        return got;
    }

    private static void plays(String page) throws Exception {
        int from = page.indexOf("```java\n") + 8;
        int to = page.indexOf("```", from);
        check(from >= 8 && to > from, "no lines of Java");
        StringBuilder code = new StringBuilder("public final class Example { public static void play() {\n");
        int answers = 0;
        for (String line : page.substring(from, Math.max(from, to)).split("\n")) {
            Matcher m = ANSWERS.matcher(line);
            if (m.matches()) {
                answers++;
                code.append(m.group(1) == null ? "" : "int " + m.group(1) + " = ").append("ReadmeTest.due(\"")
                        .append(m.group(2)).append("\", ").append(m.group(2)).append(", ").append(m.group(3))
                        .append(");\n");
            } else {
                check(line.isEmpty() || line.startsWith("NoteHouse x = "), "a line without an answer: " + line);
                code.append(line).append('\n');
            }
        }
        check(answers > 20, answers + " answers are told");
        play(code.append("} }\n").toString());
    }

    private static void play(String code) throws Exception {
        JavaCompiler compiler = ToolProvider.getSystemJavaCompiler();
        JavaFileObject file = new SimpleJavaFileObject(URI.create("string:///Example.java"), JavaFileObject.Kind.SOURCE) {
            @Override
            public CharSequence getCharContent(boolean ignore) {
                return code;
            }
        };
        Path out = Files.createTempDirectory("readme");
        StringWriter said = new StringWriter();
        List<String> options = List.of("-d", out.toString(), "-cp", System.getProperty("java.class.path"));
        if (compiler.getTask(said, null, null, options, null, List.of(file)).call()) {
            try (URLClassLoader loader = new URLClassLoader(new java.net.URL[] {out.toUri().toURL()})) {
                loader.loadClass("Example").getMethod("play").invoke(null);
            }
        } else {
            check(false, said.toString());
        }
        Files.deleteIfExists(out.resolve("Example.class"));
        Files.delete(out);
    }

    // Each test that is there is told of, and each that is told of is there.
    private static void files(String page) throws IOException {
        Set<String> told = new TreeSet<>();
        Matcher m = Pattern.compile("`(Edge\\w+|\\w+Tests?|Model|Script)\\b").matcher(page);
        while (m.find()) {
            told.add(m.group(1));
        }
        for (String name : told) {
            check(Files.exists(TESTS.resolve(name + ".java")), "there is no " + name);
        }
        try (var all = Files.list(TESTS)) {
            for (Path path : (Iterable<Path>) all::iterator) {
                String name = path.getFileName().toString().replace(".java", "");
                boolean isRuns = name.endsWith("Test") || name.endsWith("Tests") || name.startsWith("Edge");
                check(!isRuns || told.contains(name), "doesn't tell of " + name);
            }
        }
    }

    private static void classes(String page) {
        Set<String> told = new TreeSet<>();
        Matcher m = Pattern.compile("`(\\w+)`").matcher(page.substring(page.indexOf("| class |"))
                .replaceAll("(?m)^\\|([^|]*)\\|.*$", "|$1|").replaceAll("(?m)^[^|].*$", ""));
        while (m.find()) {
            told.add(m.group(1));
        }
        Set<String> there = new TreeSet<>(Set.of("NoteHouse"));
        for (Class<?> c : NoteHouse.class.getDeclaredClasses()) {
            there.add(c.getSimpleName());
        }
        check(told.equals(there), "tells of " + told + ", there are " + there);
    }

    private static void commands(String page) {
        Matcher m = Pattern.compile("(?m)^ {4}(\\S.*)$").matcher(page);
        int n = 0;
        while (m.find()) {
            n++;
            for (String word : m.group(1).split(" ")) {
                String path = word.replaceAll("/\\*\\.java$", "");
                if (word.contains("/")) {
                    check(Files.exists(Path.of(path)), "there is no " + path);
                }
            }
        }
        check(n == 2, n + " commands");
    }
}
