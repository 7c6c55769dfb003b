import java.io.IOException;
import java.lang.reflect.Field;
import java.lang.reflect.Method;
import java.lang.reflect.Modifier;
import java.nio.file.Files;
import java.nio.file.Path;
import java.util.ArrayList;
import java.util.List;
import java.util.Set;
import java.util.TreeSet;
import java.util.regex.Matcher;
import java.util.regex.Pattern;

/** The rules of ../shared/LANGUAGE.md that can be seen from the class and its file; FaceTest looks at rule 1. */
public final class LanguageTest {
    private static final Check CHECK = new Check();
    private static final Path FILE = Path.of("src", "main", "java", "PatternHouse.java");
    private static final Set<String> LIBRARY = Set.of("String", "StringBuilder", "Integer", "Long", "Math", "System",
            "Arrays", "ArrayList", "List", "Iterator", "Iterable", "Comparable", "Override");
    private static final Set<String> EXCEPTIONS = Set.of("IllegalStateException", "IllegalArgumentException",
            "IndexOutOfBoundsException", "ArithmeticException", "UnsupportedOperationException",
            "NoSuchElementException", "RuntimeException");
    private static final Set<String> CONSTANTS = Set.of("int", "long", "boolean", "char", "String",
            "int[]", "long[]", "char[]", "byte[]");

    public static void main(String[] args) throws IOException {
        // what stands in comments and texts is no code
        String code = Files.readString(FILE).replaceAll("(?s)/\\*.*?\\*/", "").replaceAll("//[^\n]*", "")
                .replaceAll("\"(\\\\.|[^\"\\\\])*\"", "\"\"");
        List<Class<?>> classes = new ArrayList<>();
        addClasses(PatternHouse.class, classes);
        rule2(code);
        rule3(classes);
        rule4(code, classes);
        rule5(code, classes);
        rule6(code);
        rule11(code, classes);
        CHECK.end();
    }

    private static void addClasses(Class<?> one, List<Class<?>> all) {
        all.add(one);
        for (Class<?> inside : one.getDeclaredClasses()) {
            addClasses(inside, all);
        }
    }

    private static void none(String rule, String code, String wrong) {
        TreeSet<String> found = new TreeSet<>();
        Matcher matcher = Pattern.compile(wrong).matcher(code);
        while (matcher.find()) {
            found.add(matcher.group());
        }
        CHECK.due(rule + ", what must not be there", found.toString(), "[]");
    }

    private static void rule2(String code) {
        none("rule 2", code, "->|::");
        none("one file without a package", code, "\\bpackage\\b");
    }

    private static void rule3(List<Class<?>> classes) {
        for (Class<?> one : classes) {
            for (Field field : one.getDeclaredFields()) {
                Class<?> row = field.getType().getComponentType();
                boolean isDeep = row != null && row.isArray();
                CHECK.due("rule 3, " + field + " has two dimensions, of numbers at most",
                        !isDeep || row.getComponentType().isPrimitive(), true);
            }
        }
    }

    private static void rule4(String code, List<Class<?>> classes) {
        Set<String> known = new TreeSet<>(LIBRARY);
        known.addAll(EXCEPTIONS);
        for (Class<?> one : classes) {
            known.add(one.getSimpleName());
        }
        Matcher names = Pattern.compile("\\b[A-Z][a-z]\\w*").matcher(code);
        TreeSet<String> others = new TreeSet<>();
        while (names.find()) {
            if (!known.contains(names.group())) {
                others.add(names.group());
            }
        }
        CHECK.due("rule 4, other names of classes", others.toString(), "[]");
        none("rule 4", code, "\\bSystem\\.(?!arraycopy\\b)\\w+|\\w+Exact\\b|\\bjava\\.(?!util\\.)\\w+");
    }

    private static void rule5(String code, List<Class<?>> classes) {
        none("rule 5", code, "\\bstatic\\s*\\{");
        for (Class<?> one : classes) {
            for (Field field : one.getDeclaredFields()) {
                if (Modifier.isStatic(field.getModifiers()) && !field.isSynthetic()) {
                    CHECK.due("rule 5, " + field + " is final", Modifier.isFinal(field.getModifiers()), true);
                    CHECK.due("rule 5, the type of " + field,
                            CONSTANTS.contains(field.getType().getSimpleName()), true);
                }
            }
        }
    }

    private static void rule6(String code) {
        none("rule 6", code, "\\b(finally|synchronized|assert|getMessage|hashCode|toString|volatile|native)\\b");
        none("rule 6", code, "\\btry\\s*\\(|\\bthrow\\s+(?!new\\b)\\w+");
        Matcher thrown = Pattern.compile("\\bthrow\\s+new\\s+(\\w+)\\s*\\((\"\")?\\)").matcher(code);
        int plain = 0;
        while (thrown.find()) {
            plain++;
            CHECK.due("rule 6, " + thrown.group(), EXCEPTIONS.contains(thrown.group(1)), true);
        }
        CHECK.due("rule 6, throws of another form", code.split("\\bthrow\\b").length - 1 - plain, 0);
    }

    private static void rule11(String code, List<Class<?>> classes) {
        CHECK.due("rule 11, at most twelve classes", classes.size() <= 12, true);
        for (Class<?> one : classes) {
            int fields = 0;
            for (Field field : one.getDeclaredFields()) {
                fields += Modifier.isStatic(field.getModifiers()) ? 0 : 1;
            }
            CHECK.due("rule 11, at most twenty fields in " + one, fields <= 20, true);
            for (Method method : one.getDeclaredMethods()) {
                CHECK.due("rule 11, at most seven parameters of " + method, method.getParameterCount() <= 7, true);
            }
        }
        methodsAreShort(code);
    }

    /** A method's body ends at the brace that stands below its first line's beginning. */
    private static void methodsAreShort(String code) {
        String[] lines = code.split("\n");
        for (int i = 0; i < lines.length; i++) {
            Matcher head = Pattern.compile("( +)[\\w\\[\\]<> ]+\\(.*").matcher(lines[i]);
            boolean isMethod = head.matches() && !lines[i].contains(";") && !lines[i].contains("=")
                    && !lines[i].matches(" +(if|for|while|switch|return|else|do)\\b.*");
            if (isMethod) {
                int end = i + 1;
                while (end < lines.length && !lines[end].equals(head.group(1) + "}")) {
                    end++;
                }
                CHECK.due("rule 11, at most sixty lines from " + lines[i].trim(), end - i + 1 <= 60, true);
            }
        }
    }
}
