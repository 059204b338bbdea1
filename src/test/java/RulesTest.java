import java.lang.reflect.Constructor;
import java.lang.reflect.Field;
import java.lang.reflect.Member;
import java.lang.reflect.Method;
import java.lang.reflect.Modifier;
import java.nio.file.Files;
import java.nio.file.Path;
import java.util.ArrayList;
import java.util.List;
import java.util.Set;
import java.util.TreeSet;
import java.util.regex.Matcher;
import java.util.regex.Pattern;
import java.util.stream.Collectors;
import java.util.stream.Stream;

/** What can be told of LANGUAGE.md from the source (read from the project's folder) and from the compiled class. */
public final class RulesTest {
    private static final String SOURCE = "src/main/java/AskedFire.java";
    private static final String DOCUMENT = "../shared/DOC.md";
    private static int wrong = 0;

    private static void rule(int number, String what, boolean holds) {
        if (!holds) {
            wrong++;
            System.out.println("rule " + number + ": " + what);
        }
    }

    public static void main(String[] args) throws Exception {
        face();
        classes();
        String source = Files.readString(Path.of(SOURCE));
        words(source.replaceAll("(?s)/\\*.*?\\*/", "").replaceAll("//[^\n]*", ""));
        methods(source);
        made(source);
        System.out.println(wrong == 0 ? "all rules hold" : wrong + " rules are broken");
        if (wrong != 0) {
            System.exit(1);
        }
    }

    private static String form(Method m) {
        String params = Stream.of(m.getParameterTypes()).map(Class::getName).collect(Collectors.joining(","));
        return m.getReturnType().getName() + " " + m.getName() + "(" + params + ")";
    }

    private static Set<String> told(String document, String form) {
        return Pattern.compile(form).matcher(document).results().map(r -> r.group(1)).collect(Collectors.toSet());
    }

    /** The face as the document has it. */
    private static void face() throws Exception {
        String document = Files.readString(Path.of(DOCUMENT));
        Class<?> face = AskedFire.class;
        rule(1, "public and final", Modifier.isPublic(face.getModifiers()) && Modifier.isFinal(face.getModifiers()));
        Set<String> have = new TreeSet<>();
        for (Method m : face.getDeclaredMethods()) {
            if (Modifier.isPrivate(m.getModifiers()) || m.isSynthetic()) {
                continue;
            }
            rule(1, m + " is not public", Modifier.isPublic(m.getModifiers()) && !Modifier.isStatic(m.getModifiers()));
            have.add(form(m));
        }
        Set<String> want = told(document, "public ((?:int|long) \\w+\\([^)]*\\));")
            .stream().map(m -> m.replaceAll(" \\w+(?=[,)])", "").replace(", ", ",")).collect(Collectors.toSet());
        rule(1, "face has " + have + ", due " + want, have.equals(want) && have.size() == 41);
        Set<String> constants = new TreeSet<>();
        for (Field f : face.getDeclaredFields()) {
            if (Modifier.isPublic(f.getModifiers())) {
                constants.add(f.getName() + " = " + f.getInt(null));
            } else {
                rule(1, f + " is not private", Modifier.isPrivate(f.getModifiers()));
            }
        }
        Set<String> due = told(document, "([A-Z]+ = -\\d+)[,;]");
        rule(1, "constants " + constants + ", due " + due, constants.equals(due));
        Constructor<?>[] made = face.getDeclaredConstructors();
        rule(1, "one public constructor", made.length == 1 && Modifier.isPublic(made[0].getModifiers()));
    }

    private static void classes() {
        List<Class<?>> all = new ArrayList<>(List.of(AskedFire.class.getDeclaredClasses()));
        Set<String> publics = Stream.of(AskedFire.class.getDeclaredMethods())
            .filter(m -> Modifier.isPublic(m.getModifiers())).map(Method::getName).collect(Collectors.toSet());
        for (Class<?> inner : all) {
            rule(1, inner + " is private and static",
                Modifier.isPrivate(inner.getModifiers()) && Modifier.isStatic(inner.getModifiers()));
        }
        all.add(AskedFire.class);
        rule(11, "at most twelve classes", all.size() <= 12);
        for (Class<?> c : all) {
            long fields = Stream.of(c.getDeclaredFields()).filter(f -> !Modifier.isStatic(f.getModifiers())).count();
            rule(11, c + " has " + fields + " fields", fields <= 20);
            for (Field f : c.getDeclaredFields()) {
                rule(5, f + " is final", !Modifier.isStatic(f.getModifiers()) || Modifier.isFinal(f.getModifiers()));
            }
            for (Method m : c.getDeclaredMethods()) {
                rule(11, m + " takes at most seven", m.getParameterCount() <= 7);
                rule(1, m + " has a public one's name", isOfFace(m) || !publics.contains(m.getName()));
            }
        }
    }

    private static boolean isOfFace(Member m) {
        return m.getDeclaringClass() == AskedFire.class && Modifier.isPublic(m.getModifiers());
    }

    private static void words(String code) {
        for (String word : List.of("throw", "throws", "try", "catch", "finally", "synchronized", "assert", "import",
                "package", "float", "double", "Object", "System\\.(?!arraycopy)", "Thread", "native", "Exact", "String")) {
            Matcher found = Pattern.compile("\\b" + word + (word.endsWith(")") ? "" : "\\b")).matcher(code);
            rule(6, "the word " + word, !found.find());
        }
        rule(2, "lambda or method reference", !code.contains("->") && !code.contains("::"));
        rule(4, "a text", code.indexOf('"') < 0);
        rule(4, "signs 0 to 127", code.chars().allMatch(c -> c < 128));
        rule(9, "an endless loop", !Pattern.compile("while \\(true\\)|for \\(;;\\)").matcher(code).find());
        Matcher called = Pattern.compile("\\b(Math|Integer|Long|Arrays)\\.(\\w+)").matcher(code);
        while (called.find()) {
            rule(4, called.group(), Set.of("max", "min", "abs", "bitCount").contains(called.group(2)));
        }
    }

    /** All runs live in one room: objects are made by the constructor (and what it initialises) alone. */
    private static void made(String source) {
        for (String line : source.split("\n")) {
            if (line.matches(".*\\bnew\\b.*")) {
                boolean once = line.matches("\\s+(private )?final \\S+ \\w+ = new .*") || line.contains("shelves[i] = new Shelf()");
                rule(12, "made by a call: " + line.trim(), once);
            }
        }
    }

    /** Methods by their lines, told by how far they stand from the left. */
    private static void methods(String source) {
        String[] lines = source.split("\n");
        for (int i = 0; i < lines.length; i++) {
            Matcher head = Pattern.compile("^(    |        )\\S[^=;]*\\) \\{$").matcher(lines[i]);
            if (head.matches()) {
                int end = i;
                while (end < lines.length && !lines[end].equals(head.group(1) + "}")) {
                    end++;
                }
                rule(11, lines[i].trim() + " is " + (end - i) + " lines long", end - i <= 60);
            }
            rule(11, "line " + (i + 1) + " is long", lines[i].length() <= 120);
        }
    }
}
