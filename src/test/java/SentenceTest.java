import java.nio.file.Files;
import java.nio.file.Path;
import java.util.List;
import java.util.Set;
import java.util.TreeSet;
import java.util.regex.Matcher;
import java.util.regex.Pattern;
import java.util.stream.Stream;

/**
 * Each test of a boundary case says in one line ahead of it which promises it holds, and by which
 * sentences: those have to stand in the document, and no promise may go without. Run from the project's root.
 */
public final class SentenceTest {
    private static final Path DOCUMENT = Path.of("../shared/DOC.md");
    private static final Path TESTS = Path.of("src/test/java");
    private static final int PROMISES = 27;
    private static final Pattern TEST = Pattern.compile("    private static void (\\w+)\\(\\) \\{");
    private static final Pattern SAYING = Pattern.compile("    // Promises? ([\\d, to]+): \"(.+)\"");

    private static int wrong = 0;

    private static void must(boolean holds, String what) {
        if (!holds) {
            wrong++;
            System.out.println(what);
        }
    }

    public static void main(String[] args) throws Exception {
        String document = Files.readString(DOCUMENT).replaceAll("\\s+", " ");
        Set<Integer> held = new TreeSet<>();
        int tests = 0;
        try (Stream<Path> all = Files.list(TESTS)) {
            for (Path file : all.filter(p -> p.toString().endsWith("BoundaryTest.java")).sorted().toList()) {
                tests += look(file, document, held);
            }
        }
        for (int promise = 1; promise <= PROMISES; promise++) {
            must(held.contains(promise), "no test of a boundary case for promise " + promise);
        }
        must(tests > 0, "no tests of boundary cases");
        System.out.println(tests + " tests say what they hold, " + wrong + " faults");
        if (wrong != 0) {
            System.exit(1);
        }
    }

    private static int look(Path file, String document, Set<Integer> held) throws Exception {
        List<String> lines = Files.readAllLines(file);
        int tests = 0;
        for (int i = 1; i < lines.size(); i++) {
            Matcher test = TEST.matcher(lines.get(i));
            if (!test.matches()) {
                continue;
            }
            tests++;
            String name = file.getFileName() + ", " + test.group(1);
            Matcher saying = SAYING.matcher(lines.get(i - 1));
            must(saying.matches(), name + " does not say what it holds");
            if (saying.matches()) {
                held.addAll(numbers(saying.group(1)));
                for (String sentence : saying.group(2).split("\"; \"")) {
                    must(document.contains(sentence.strip()), name + ": not in the document: " + sentence);
                }
            }
        }
        return tests;
    }

    /** "2, 4 to 6" are 2, 4, 5, 6. */
    private static Set<Integer> numbers(String told) {
        Set<Integer> all = new TreeSet<>();
        for (String part : told.split(", ")) {
            String[] ends = part.split(" to ");
            for (int n = Integer.parseInt(ends[0].strip()); n <= Integer.parseInt(ends[ends.length - 1].strip()); n++) {
                all.add(n);
            }
        }
        return all;
    }
}
