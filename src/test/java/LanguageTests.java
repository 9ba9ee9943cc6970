import java.io.IOException;
import java.lang.reflect.Field;
import java.lang.reflect.Method;
import java.lang.reflect.Modifier;
import java.nio.file.Files;
import java.nio.file.Path;
import java.util.Set;
import java.util.TreeSet;
import java.util.regex.Matcher;
import java.util.regex.Pattern;

/** The rules for the class's file, as far as its text and its members show them; the numbers are LANGUAGE.md's. */
public final class LanguageTests extends Probe {
    private static final int MOST_LINES = 60, MOST_PARAMETERS = 7, MOST_CLASSES = 12, MOST_FIELDS = 20;
    private static final Pattern IGNORED = Pattern.compile("/\\*.*?\\*/|//[^\n]*|\"[^\"\n]*\"|'[^'\n]'", Pattern.DOTALL);
    private static final Pattern METHOD = Pattern.compile("^( +)[\\w\\[\\] ]+\\([^;]*\\{\n((?:\\1 .*\n|\n)*)\\1\\}$", Pattern.MULTILINE);
    private static final Set<String> IMPORTS = Set.of("java.util.Arrays", "java.util.NoSuchElementException");
    private static final Set<String> EXCEPTIONS = Set.of("IllegalStateException", "IllegalArgumentException",
            "IndexOutOfBoundsException", "ArithmeticException", "UnsupportedOperationException",
            "NoSuchElementException", "RuntimeException");
    private static final Set<String> LIBRARY = Set.of("Arrays.fill", "Math.abs");
    // What the rules forbid, and what the class does without, so that its care need not be tested.
    private static final String[] ABSENT = {
        "->", "::", "synchronized", "assert", "finally", "try", "catch", "protected", "instanceof", "String",
        "double", "float", "static {", "package ", "import static", "native", "volatile", "Exact", "System"
    };

    public static void main(String[] args) throws IOException {
        String code = IGNORED.matcher(Files.readString(Path.of("src/main/java/FormulaScales.java"))).replaceAll("");
        absent(code);
        library(code);
        staticFields();
        exceptions(code);
        objectsAreMadeInConstructors(code);
        sizes(code);
        end();
    }

    private static void absent(String code) {
        sentence("rules 2, 3, 4, 6, 13");
        for (String word : ABSENT) {
            is("no " + word, false, () -> code.contains(word));
        }
    }

    private static void library(String code) {
        sentence("rule 4");
        Matcher imported = Pattern.compile("import ([\\w.]+);").matcher(code);
        while (imported.find()) {
            String name = imported.group(1);
            is("import of " + name, true, () -> IMPORTS.contains(name));
        }
        Matcher call = Pattern.compile("\\b([A-Z]\\w*\\.\\w+)\\(").matcher(code);
        while (call.find()) {
            String name = call.group(1);
            is("call of " + name, true, () -> LIBRARY.contains(name));
        }
    }

    private static void staticFields() {
        sentence("rule 5");
        for (Class<?> c : classes()) {
            for (Field f : c.getDeclaredFields()) {
                Class<?> type = f.getType();
                if (Modifier.isStatic(f.getModifiers())) {
                    is(f + " is a constant", true, () -> Modifier.isFinal(f.getModifiers())
                            && (type == int.class || type == long.class || type == char.class || type == boolean.class));
                }
            }
        }
    }

    private static void exceptions(String code) {
        sentence("rule 6");
        Matcher thrown = Pattern.compile("\\bthrow\\b([^;]*);").matcher(code);
        while (thrown.find()) {
            String what = thrown.group(1).replaceAll("^ new (\\w+)\\(\\)$", "$1");
            is("throw" + thrown.group(1), true, () -> EXCEPTIONS.contains(what));
        }
    }

    /** So that 512 calls make no more objects than one: only throws, fields and the constructor make any. */
    private static void objectsAreMadeInConstructors(String code) {
        sentence("rule 12");
        for (String line : code.split("\n")) {
            boolean field = line.matches(" +(private )?final [\\w\\[\\]]+ \\w+ = new .*");
            boolean constructor = line.matches(" +(reader|balance|line) = new \\w+\\(\\);");
            boolean thrown = line.trim().startsWith("throw new ");
            is(line, true, () -> field || constructor || thrown || !line.matches(".*\\bnew\\b.*"));
        }
    }

    private static void sizes(String code) {
        sentence("rule 11");
        is("at most " + MOST_CLASSES + " classes", true, () -> classes().length <= MOST_CLASSES);
        for (Class<?> c : classes()) {
            int fields = 0;
            for (Field f : c.getDeclaredFields()) {
                fields += Modifier.isStatic(f.getModifiers()) ? 0 : 1;
            }
            boolean few = fields <= MOST_FIELDS;
            is("at most " + MOST_FIELDS + " fields in " + c, true, () -> few);
            for (Method m : c.getDeclaredMethods()) {
                is("parameters of " + m, true, () -> m.getParameterCount() <= MOST_PARAMETERS);
            }
        }
        Matcher method = METHOD.matcher(code);
        Set<String> seen = new TreeSet<>();
        while (method.find()) {
            String head = method.group().trim().split("\n")[0];
            seen.add(head.replaceAll("\\(.*", "").replaceAll(".* ", ""));
            is("lines of " + head, true, () -> method.group().split("\n").length <= MOST_LINES);
        }
        for (Class<?> c : classes()) {
            for (Method m : c.getDeclaredMethods()) {
                is("seen among the methods: " + m, true, () -> seen.contains(m.getName()));
            }
        }
    }

    private static Class<?>[] classes() {
        Class<?>[] nested = FormulaScales.class.getDeclaredClasses();
        Class<?>[] all = java.util.Arrays.copyOf(nested, nested.length + 1);
        all[nested.length] = FormulaScales.class;
        return all;
    }
}
