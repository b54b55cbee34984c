import java.lang.reflect.Method;
import java.lang.reflect.Modifier;
import java.net.URL;
import java.net.URLClassLoader;
import java.nio.file.Files;
import java.nio.file.Path;
import java.util.ArrayList;
import java.util.List;
import java.util.Set;
import java.util.TreeSet;
import java.util.regex.Matcher;
import java.util.regex.Pattern;
import java.util.stream.Stream;
import javax.tools.ToolProvider;

/**
 * README.md's example is compiled as it stands there and run: each line with a call says what it answers, and it must
 * answer so. Each call of the face has to be shown there, and each test of the project named. Run from the project's root.
 */
public final class ReadmeTest {
    private static final Path README = Path.of("README.md");
    private static final Path TESTS = Path.of("src/test/java");
    private static final Pattern BLOCK = Pattern.compile("```java\n(.*?)```", Pattern.DOTALL);
    private static final Pattern CALL = Pattern.compile("\\bx\\.(\\w+)\\(");
    private static final Pattern SAYING = Pattern.compile("\\s*(x\\.\\w+\\(.*\\));\\s*// (-?\\d+|[A-Z]+)\\b.*");

    // What stands around the example in the class that is made of it.
    private static final String HEAD = """
            public final class Example {
                public static final StringBuilder wrong = new StringBuilder();
                public static int asked = 0;
                private static void due(String call, long got, long want) {
                    asked++;
                    if (got != want) {
                        wrong.append("README.md: ").append(call).append(" answered ").append(got).append(", it says ")
                                .append(want).append('\\n');
                    }
                }
            """;

    private static final Set<String> shown = new TreeSet<>();
    private static int lines = 0;
    private static int wrong = 0;

    private static void must(boolean holds, String what) {
        if (!holds) {
            wrong++;
            System.out.println("README.md: " + what);
        }
    }

    public static void main(String[] args) throws Exception {
        String readme = Files.readString(README);
        int asked = run(sourceOf(readme));
        must(lines > 0 && asked >= lines, lines + " lines say an answer, " + asked + " calls were made");
        callsAreShown();
        testsAreNamed(readme);
        System.out.println("the example makes " + asked + " calls, " + wrong + " faults");
        if (wrong != 0) {
            System.exit(1);
        }
    }

    /** The blocks that begin with "static" are methods, the others come one behind another in one method. */
    private static String sourceOf(String readme) {
        StringBuilder methods = new StringBuilder();
        StringBuilder body = new StringBuilder();
        Matcher block = BLOCK.matcher(readme);
        while (block.find()) {
            StringBuilder to = block.group(1).startsWith("static ") ? methods : body;
            for (String line : block.group(1).split("\n")) {
                to.append(asking(line)).append('\n');
            }
        }
        return HEAD + methods + "public static void go() {\n" + body + "}\n}\n";
    }

    /** A line with a call, made to compare the answer with what the line says. */
    private static String asking(String line) {
        Matcher call = CALL.matcher(line);
        if (!call.find()) {
            return line;
        }
        shown.add(call.group(1));
        Matcher saying = SAYING.matcher(line);
        must(saying.matches(), "a call without an answer: " + line);
        if (!saying.matches()) {
            return line;
        }
        lines++;
        String told = saying.group(2);
        String want = Character.isLetter(told.charAt(0)) ? "AlikeUnlike." + told : told + "L";
        return "due(\"" + saying.group(1).replace("\"", "\\\"") + "\", " + saying.group(1) + ", " + want + ");";
    }

    private static int run(String source) throws Exception {
        Path at = Files.createTempDirectory("readme");
        Path file = at.resolve("Example.java");
        Path made = at.resolve("Example.class");
        Files.writeString(file, source);
        try {
            String classes = System.getProperty("java.class.path");
            int rc = ToolProvider.getSystemJavaCompiler().run(null, null, null, "-encoding", "UTF-8", "-cp", classes,
                    "-d", at.toString(), file.toString());
            must(rc == 0, "the example does not compile");
            return rc == 0 ? answersOf(at) : 0;
        } finally {
            for (Path left : List.of(made, file, at)) {
                Files.deleteIfExists(left);
            }
        }
    }

    private static int answersOf(Path at) throws Exception {
        try (URLClassLoader loader = new URLClassLoader(new URL[] {at.toUri().toURL()}, ReadmeTest.class.getClassLoader())) {
            Class<?> example = loader.loadClass("Example");
            example.getMethod("go").invoke(null);
            String told = example.getField("wrong").get(null).toString();
            wrong += told.lines().count();
            System.out.print(told);
            return example.getField("asked").getInt(null);
        }
    }

    private static void callsAreShown() {
        for (Method method : AlikeUnlike.class.getDeclaredMethods()) {
            must(!Modifier.isPublic(method.getModifiers()) || shown.contains(method.getName()),
                    "the example does not show " + method.getName() + "()");
        }
    }

    private static void testsAreNamed(String readme) throws Exception {
        List<String> names = new ArrayList<>();
        try (Stream<Path> all = Files.list(TESTS)) {
            all.forEach(file -> names.add(file.getFileName().toString().replace(".java", "")));
        }
        for (String name : names) {
            must(readme.contains("`" + name + "`"), "it does not name " + name);
        }
        must(readme.contains(".ci/run"), "it does not say how the tests are run");
    }
}
