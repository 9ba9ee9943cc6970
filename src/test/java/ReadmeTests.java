import java.io.IOException;
import java.io.UncheckedIOException;
import java.lang.reflect.Method;
import java.lang.reflect.Modifier;
import java.nio.file.FileVisitOption;
import java.nio.file.Files;
import java.nio.file.Path;
import java.util.ArrayList;
import java.util.Comparator;
import java.util.List;
import java.util.Set;
import java.util.TreeSet;
import java.util.regex.Matcher;
import java.util.regex.Pattern;
import java.util.stream.Stream;

/** Follows README.md's program and commands in a copy of the project, and asks the texts of its table. */
public final class ReadmeTests extends Probe {
    private static final Pattern BLOCK = Pattern.compile("^```(\\w+)\n(.*?)^```$", Pattern.MULTILINE | Pattern.DOTALL);
    private static final Pattern ROW = Pattern.compile(
            "^\\| `([^`]*)` \\| (\\w+) \\| (-?\\d+) \\| (\\w+) \\| [^|]+ \\|$", Pattern.MULTILINE);
    private static final Pattern SAVED = Pattern.compile("Save this program as `([^`]+)`:\n\n\\z");
    private static final Pattern CALL_ROW = Pattern.compile("^\\| [^|]+ \\| [^|]+ \\|$", Pattern.MULTILINE);
    private static final Pattern CALL = Pattern.compile("`(\\w+)\\(([^)]*)\\)`");
    private static final Pattern TEST_NAME = Pattern.compile("`(\\w+Tests)`");

    public static void main(String[] args) throws IOException, InterruptedException {
        String readme = Files.readString(Path.of("README.md"));
        Path home = Files.createTempDirectory("readme");
        try {
            copy(Path.of("src"), home.resolve("main/src"));
            copy(Path.of("../shared"), home.resolve("shared"));
            follow(readme, home.resolve("main"));
        } finally {
            remove(home);
        }
        rowsOfTexts(readme);
        everyCallIsTold(readme);
        everyTestIsTold(readme);
        end();
    }

    /** Saves the program, gives the commands and compares what they print, block by block. */
    private static void follow(String readme, Path project) throws IOException, InterruptedException {
        String printed = "";
        int programs = 0, commands = 0, prints = 0;
        Matcher block = BLOCK.matcher(readme);
        while (block.find()) {
            String inside = block.group(2);
            if (block.group(1).equals("java")) {
                Matcher saved = SAVED.matcher(readme.substring(0, block.start()));
                is("a program has a place to be saved in", true, saved::find);
                Files.writeString(project.resolve(saved.group(1)), inside);
                programs++;
            } else if (block.group(1).equals("text")) {
                is("what the commands before print", inside, same(printed));
                prints++;
            } else if (inside.equals(".ci/run\n")) {
                // It is what runs this test: here it can only be seen to be there.
                is("executable " + inside, true, () -> Files.isExecutable(Path.of(".ci/run")));
                commands++;
            } else {
                printed = printedBy(inside, project);
                commands++;
            }
        }
        is("programs, commands and prints in README.md", "1 5 1", same(programs + " " + commands + " " + prints));
    }

    private static Call same(Object answer) {
        return () -> answer;
    }

    private static String printedBy(String commands, Path project) throws IOException, InterruptedException {
        Process process = new ProcessBuilder("bash", "-e", "-c", commands)
                .directory(project.toFile()).redirectErrorStream(true).start();
        process.getOutputStream().close();
        String printed = new String(process.getInputStream().readAllBytes());
        int code = process.waitFor();
        is("exit code of\n" + commands + "which printed\n" + printed, 0, same(code));
        return printed;
    }

    private static void rowsOfTexts(String readme) {
        int rows = 0;
        Matcher row = ROW.matcher(readme);
        while (row.find()) {
            FormulaScales x = new FormulaScales();
            String text = row.group(1);
            enter(x, text);
            is("read of '" + text + "'", numberOf(row.group(2)), x::read);
            is("at of '" + text + "'", Integer.valueOf(row.group(3)), x::at);
            is("state of '" + text + "'", numberOf(row.group(4)), x::state);
            rows++;
        }
        is("rows of texts in README.md", 13, same(rows));
    }

    /** A number that is written, or the constant that is named. */
    private static Object numberOf(String word) {
        if (Character.isDigit(word.charAt(0))) {
            return Integer.valueOf(word);
        }
        try {
            return FormulaScales.class.getField(word).get(null);
        } catch (ReflectiveOperationException e) {
            return "no constant " + word;
        }
    }

    private static void everyCallIsTold(String readme) {
        Set<String> told = new TreeSet<>();
        Matcher row = CALL_ROW.matcher(readme);
        while (row.find()) {
            Matcher call = CALL.matcher(row.group());
            while (call.find()) {
                told.add(call.group(1) + " with " + (call.group(2).isEmpty() ? 0 : call.group(2).split(",").length));
            }
        }
        Set<String> face = new TreeSet<>();
        for (Method m : FormulaScales.class.getDeclaredMethods()) {
            if (Modifier.isPublic(m.getModifiers())) {
                face.add(m.getName() + " with " + m.getParameterCount());
            }
        }
        is("the calls that README.md tells", face, same(told));
    }

    private static void everyTestIsTold(String readme) throws IOException {
        List<String> told = new ArrayList<>();
        Matcher name = TEST_NAME.matcher(readme);
        while (name.find()) {
            told.add(name.group(1));
            is("README.md tells a test that there is", true,
                    () -> Files.exists(Path.of("src/test/java", told.get(told.size() - 1) + ".java")));
        }
        try (Stream<Path> tests = Files.list(Path.of("src/test/java"))) {
            tests.forEach(test -> is("README.md tells " + test, true,
                    () -> told.contains(test.getFileName().toString().replace(".java", ""))));
        }
    }

    private static void copy(Path from, Path to) throws IOException {
        Files.createDirectories(to);
        try (Stream<Path> paths = Files.walk(from, FileVisitOption.FOLLOW_LINKS)) {
            for (Path path : (Iterable<Path>) paths::iterator) {
                Path target = to.resolve(from.relativize(path));
                if (Files.isDirectory(path)) {
                    Files.createDirectories(target);
                } else {
                    Files.write(target, Files.readAllBytes(path));
                }
            }
        }
    }

    private static void remove(Path home) throws IOException {
        try (Stream<Path> paths = Files.walk(home)) {
            paths.sorted(Comparator.reverseOrder()).forEach(ReadmeTests::delete);
        }
    }

    private static void delete(Path path) {
        try {
            Files.delete(path);
        } catch (IOException e) {
            throw new UncheckedIOException(e);
        }
    }
}
