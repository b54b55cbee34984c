import java.lang.reflect.Constructor;
import java.lang.reflect.Field;
import java.lang.reflect.Method;
import java.lang.reflect.Modifier;
import java.nio.file.Files;
import java.nio.file.Path;
import java.util.ArrayDeque;
import java.util.Deque;
import java.util.Set;
import java.util.TreeSet;
import java.util.regex.Matcher;
import java.util.regex.Pattern;

/** What can be seen of LANGUAGE.md's rules in the source and in the compiled class. Run from the project's root. */
public final class LanguageTest {
    private static final Path SOURCE = Path.of("src/main/java/AlikeUnlike.java");
    private static final Path DOCUMENT = Path.of("../shared/DOC.md");
    private static int wrong = 0;

    private static void must(boolean holds, String rule) {
        if (!holds) {
            wrong++;
            System.out.println("not kept: " + rule);
        }
    }

    public static void main(String[] args) throws Exception {
        String source = Files.readString(SOURCE);
        words(bare(source));
        library(bare(source));
        methodLengths(bare(source));
        face();
        classes();
        System.out.println(wrong == 0 ? "the rules that can be seen are kept" : wrong + " rules are not kept");
        if (wrong != 0) {
            System.exit(1);
        }
    }

    /** The source without comments, and with empty letters and texts. */
    private static String bare(String source) {
        return source.replaceAll("(?s)/\\*.*?\\*/", "").replaceAll("//[^\n]*", "")
                .replaceAll("'(\\\\.|[^'\\\\])'", "' '").replaceAll("\"(\\\\.|[^\"\\\\])*\"", "\"\"");
    }

    private static void words(String bare) {
        String[] never = {"package", "import", "throw", "throws", "try", "catch", "finally", "synchronized", "assert",
            "protected", "native", "volatile", "transient", "strictfp", "Object", "var", "equals", "hashCode", "toString",
            "Random", "Thread", "double", "float"};
        for (String word : never) {
            must(!Pattern.compile("\\b" + word + "\\b").matcher(bare).find(), "no " + word);
        }
        must(!bare.contains("->") && !bare.contains("::") && !bare.contains("@"), "no lambda, method reference, annotation");
        must(!Pattern.compile("static\\s*\\{").matcher(bare).find(), "no static initialiser block");
        must(bare.chars().allMatch(c -> c < 127), "plain letters alone");
    }

    private static void library(String bare) {
        Set<String> listed = Set.of("Math.min", "Math.max", "Math.abs", "Integer.bitCount", "System.arraycopy");
        Matcher m = Pattern.compile("\\b(Math|Integer|Long|System|String|Arrays|List|Character)\\.\\w+").matcher(bare);
        while (m.find()) {
            must(listed.contains(m.group()), "the library: " + m.group());
        }
    }

    private static void methodLengths(String bare) {
        Deque<Integer> opened = new ArrayDeque<>();
        Deque<Boolean> isMethod = new ArrayDeque<>();
        int line = 1;
        int from = 0;
        for (int i = 0; i < bare.length(); i++) {
            char c = bare.charAt(i);
            if (c == '\n') {
                line++;
            } else if (c == '{') {
                String head = bare.substring(from, i).strip();
                opened.push(line);
                isMethod.push(head.endsWith(")") && Pattern.compile("^(public |private |static )*[\\w\\[\\]]+ \\w+\\(").matcher(head).find());
            } else if (c == '}') {
                int first = opened.pop();
                if (isMethod.pop()) {
                    must(line - first + 1 <= 60, "some sixty lines a method: line " + first);
                }
            }
            if (c == '{' || c == '}' || c == ';') {
                from = i + 1;
            }
        }
    }

    private static void face() throws Exception {
        String document = Files.readString(DOCUMENT);
        Matcher m = Pattern.compile("    public (int|long) (\\w+)\\(([^)]*)\\);").matcher(document);
        Set<String> due = new TreeSet<>();
        while (m.find()) {
            due.add(m.group(1) + " " + m.group(2) + "(" + m.group(3).replaceAll("(\\w+) \\w+", "$1") + ")");
        }
        must(due.size() == 26, "the document's face is read");
        Set<String> there = new TreeSet<>();
        for (Method method : AlikeUnlike.class.getDeclaredMethods()) {
            int mods = method.getModifiers();
            must(Modifier.isPublic(mods) || Modifier.isPrivate(mods), "public or private: " + method);
            if (Modifier.isPublic(mods)) {
                StringBuilder types = new StringBuilder();
                for (Class<?> type : method.getParameterTypes()) {
                    types.append(types.length() == 0 ? "" : ", ").append(type);
                }
                there.add(method.getReturnType() + " " + method.getName() + "(" + types + ")");
            }
        }
        must(there.equals(due), "the face: due " + due + ", there " + there);
        Set<String> constants = new TreeSet<>();
        for (Field field : AlikeUnlike.class.getDeclaredFields()) {
            int mods = field.getModifiers();
            must(Modifier.isPublic(mods) || Modifier.isPrivate(mods), "public or private: " + field);
            if (Modifier.isPublic(mods)) {
                constants.add(field.getName());
                must(Modifier.isStatic(mods) && Modifier.isFinal(mods) && field.getType() == int.class, "constant " + field);
            }
        }
        must(constants.equals(Set.of("NONE", "SPENT", "UNKNOWN", "OUTSIDE", "STATE", "FULL")), "the constants " + constants);
        Constructor<?>[] made = AlikeUnlike.class.getDeclaredConstructors();
        must(made.length == 1 && Modifier.isPublic(made[0].getModifiers()) && made[0].getParameterCount() == 0, "one constructor");
        must(Modifier.isFinal(AlikeUnlike.class.getModifiers()), "a final class");
    }

    private static void classes() {
        Set<String> names = new TreeSet<>();
        for (Method method : AlikeUnlike.class.getMethods()) {
            if (method.getDeclaringClass() == AlikeUnlike.class) {
                names.add(method.getName());
            }
        }
        Class<?>[] inside = AlikeUnlike.class.getDeclaredClasses();
        must(inside.length <= 11, "some twelve classes in the file: " + (inside.length + 1));
        look(AlikeUnlike.class, names);
        for (Class<?> one : inside) {
            int mods = one.getModifiers();
            must(Modifier.isStatic(mods) && !Modifier.isPublic(mods) && !Modifier.isProtected(mods), "static, not public: " + one);
            must(one.getDeclaredClasses().length == 0, "no classes inside " + one);
            look(one, names);
        }
    }

    private static void look(Class<?> one, Set<String> names) {
        int own = 0;
        for (Field field : one.getDeclaredFields()) {
            int mods = field.getModifiers();
            own += Modifier.isStatic(mods) ? 0 : 1;
            must(!Modifier.isStatic(mods) || Modifier.isFinal(mods), "static fields are final: " + field);
        }
        must(own <= 20, "some twenty fields: " + one + " has " + own);
        for (Method method : one.getDeclaredMethods()) {
            must(method.getParameterCount() <= 7, "seven parameters: " + method);
            must(one == AlikeUnlike.class && Modifier.isPublic(method.getModifiers()) || !names.contains(method.getName()),
                    "a public method's name: " + method);
        }
    }
}
