import java.io.ByteArrayOutputStream;
import java.io.OutputStream;
import java.net.URI;
import java.nio.file.Files;
import java.nio.file.Path;
import java.util.ArrayList;
import java.util.Comparator;
import java.util.HashMap;
import java.util.List;
import java.util.Map;
import java.util.concurrent.ExecutorService;
import java.util.concurrent.Executors;
import java.util.concurrent.Future;
import java.util.concurrent.TimeUnit;
import java.util.regex.Matcher;
import java.util.regex.Pattern;
import java.util.stream.Stream;
import javax.tools.JavaCompiler;
import javax.tools.ToolProvider;

/**
 * Tells what no test sees: breaks the class in one small place at a time, runs the tests told
 * on what has come of it, and prints each break that none of them fails on.
 * From the project's root: java src/tools/Mutants.java src/test/java/PromiseTest.java ..
 */
public final class Mutants {
    private static final Path SOURCE = Path.of("src/main/java/AlikeUnlike.java");
    private static final String HELPERS = "src/test/java";
    private static final int SECONDS = 60;

    private record Mutant(int line, String was, String is, String source) {
    }

    public static void main(String[] args) throws Exception {
        String source = Files.readString(SOURCE);
        Path room = Files.createTempDirectory("mutants");
        Path tests = Files.createDirectories(room.resolve("tests"));
        List<String> names = new ArrayList<>();
        List<String> call = new ArrayList<>(List.of("-nowarn", "-sourcepath", HELPERS, "-d", tests.toString(), SOURCE.toString()));
        for (String test : args) {
            names.add(Path.of(test).getFileName().toString().replace(".java", ""));
            call.add(test);
        }
        if (names.isEmpty() || compile(call) != 0 || !passes(List.of(tests), names)) {
            System.out.println("tell tests that the class as it is passes");
            System.exit(1);
        }
        try (Stream<Path> made = Files.list(tests)) {
            for (Path one : made.filter(p -> p.getFileName().toString().startsWith("AlikeUnlike.") || p.getFileName().toString().startsWith("AlikeUnlike$")).toList()) {
                Files.delete(one);
            }
        }
        List<Mutant> all = mutants(source);
        ExecutorService many = Executors.newFixedThreadPool(Runtime.getRuntime().availableProcessors());
        List<Future<String>> found = new ArrayList<>();
        for (int i = 0; i < all.size(); i++) {
            Path own = room.resolve("m" + i);
            Mutant mutant = all.get(i);
            found.add(many.submit(() -> look(mutant, own, tests, names)));
        }
        Map<String, Integer> tally = new HashMap<>();
        for (int i = 0; i < all.size(); i++) {
            String end = found.get(i).get();
            tally.merge(end, 1, Integer::sum);
            if (end.equals("unseen")) {
                System.out.println(all.get(i).line() + ": " + all.get(i).was().strip() + "   =>   " + all.get(i).is().strip());
            }
        }
        many.shutdown();
        System.out.println(all.size() + " breaks: " + tally);
        drop(room);
    }

    private static String look(Mutant mutant, Path own, Path tests, List<String> names) throws Exception {
        Files.createDirectories(own);
        Path file = own.resolve("AlikeUnlike.java");
        Files.writeString(file, mutant.source());
        boolean isJava = compile(List.of("-nowarn", "-proc:none", "-d", own.toString(), file.toString())) == 0;
        String end = !isJava ? "no Java" : passes(List.of(own, tests), names) ? "unseen" : "seen";
        drop(own);
        return end;
    }

    private static int compile(List<String> call) {
        JavaCompiler javac = ToolProvider.getSystemJavaCompiler();
        OutputStream nowhere = new ByteArrayOutputStream();
        return javac.run(null, nowhere, nowhere, call.toArray(new String[0]));
    }

    private static boolean passes(List<Path> classes, List<String> names) throws Exception {
        String path = classes.get(0) + (classes.size() > 1 ? System.getProperty("path.separator") + classes.get(1) : "");
        for (String name : names) {
            Process run = new ProcessBuilder("java", "-XX:TieredStopAtLevel=1", "-XX:+UseSerialGC", "-Xshare:auto", "-cp", path, name)
                    .redirectErrorStream(true).redirectOutput(ProcessBuilder.Redirect.DISCARD).start();
            if (!run.waitFor(SECONDS, TimeUnit.SECONDS)) {
                run.destroyForcibly().waitFor();
                return false;
            }
            if (run.exitValue() != 0) {
                return false;
            }
        }
        return true;
    }

    private static void drop(Path place) throws Exception {
        try (Stream<Path> all = Files.walk(place)) {
            for (Path one : all.sorted(Comparator.reverseOrder()).toList()) {
                Files.delete(one);
            }
        }
    }

    // ---- the breaks

    private static final Pattern TOKEN = Pattern.compile("/\\*(?s:.*?)\\*/|//[^\n]*|\"(?:\\\\.|[^\"\\\\])*\"|'(?:\\\\.|[^'\\\\])+'"
            + "|[A-Za-z_]\\w*|\\d+L?|>>>|<<|[<>=!+*|&-]=|\\+\\+|--|&&|\\|\\||[-+*/%<>!&|~?:;,(){}\\[\\]=.]");

    private static final Map<String, List<String>> OTHERS = Map.ofEntries(
            Map.entry("<", List.of("<=", ">=")), Map.entry("<=", List.of("<", ">")),
            Map.entry(">", List.of(">=", "<=")), Map.entry(">=", List.of(">", "<")),
            Map.entry("==", List.of("!=")), Map.entry("!=", List.of("==")),
            Map.entry("&&", List.of("||")), Map.entry("||", List.of("&&")),
            Map.entry("+", List.of("-")), Map.entry("-", List.of("+")), Map.entry("*", List.of("+")),
            Map.entry("/", List.of("*")), Map.entry("%", List.of("/")), Map.entry("&", List.of("|")), Map.entry("|", List.of("&")),
            Map.entry("true", List.of("false")), Map.entry("false", List.of("true")),
            Map.entry("+=", List.of("-=")), Map.entry("|=", List.of("=")), Map.entry("min", List.of("max")), Map.entry("max", List.of("min")),
            Map.entry("!", List.of("")), Map.entry("UNKNOWN", List.of("OUTSIDE")), Map.entry("STATE", List.of("OUTSIDE")),
            Map.entry("FULL", List.of("STATE")), Map.entry("continue", List.of("break")));

    private static List<Mutant> mutants(String source) {
        List<Mutant> all = new ArrayList<>();
        Matcher token = TOKEN.matcher(source);
        while (token.find()) {
            String t = token.group();
            for (String other : OTHERS.getOrDefault(t, List.of())) {
                add(all, source, token.start(), token.end(), other);
            }
            if (t.matches("\\d+L?")) {
                long n = Long.parseLong(t.replace("L", ""));
                String tail = t.endsWith("L") ? "L" : "";
                add(all, source, token.start(), token.end(), (n + 1) + tail);
                add(all, source, token.start(), token.end(), n == 0 ? "(-1)" : (n - 1) + tail);
            }
            if (t.matches("'[^\\\\]'")) {
                add(all, source, token.start(), token.end(), "'" + (char) (t.charAt(1) + 1) + "'");
                add(all, source, token.start(), token.end(), "'" + (char) (t.charAt(1) - 1) + "'");
            }
        }
        Matcher statement = Pattern.compile("(?m)^ +(?!return|private|public|break|int |long |boolean |case)[\\w.\\[\\] +*]+(\\(.*\\)|(=|\\+=|\\|=|-=|/=) .*|\\+\\+|--);$").matcher(source);
        while (statement.find()) {
            add(all, source, statement.start(), statement.end(), "");
        }
        return all;
    }

    private static void add(List<Mutant> all, String source, int from, int to, String other) {
        int start = source.lastIndexOf('\n', from) + 1;
        int end = source.indexOf('\n', to);
        String was = source.substring(start, end);
        String is = source.substring(start, from) + other + source.substring(to, end);
        int line = (int) source.substring(0, from + 1).chars().filter(c -> c == '\n').count() + 1;
        all.add(new Mutant(line, was, is, source.substring(0, from) + other + source.substring(to)));
    }
}
