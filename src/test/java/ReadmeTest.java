import java.io.File;
import java.io.IOException;
import java.lang.reflect.Method;
import java.lang.reflect.Modifier;
import java.nio.file.Files;
import java.nio.file.Path;
import java.util.ArrayList;
import java.util.Arrays;
import java.util.List;
import java.util.TreeSet;
import java.util.regex.Matcher;
import java.util.regex.Pattern;
import java.util.stream.Collectors;
import java.util.stream.Stream;

/** README.md: each call that it shows answers as it tells, each command that it names runs. */
public final class ReadmeTest {
    private static final Check CHECK = new Check();
    private static final Path PAGE = Path.of("README.md");
    private static final Path TESTS = Path.of("src/test/java");
    /** A statement with one call at most, and a comment that begins with what it answers. */
    private static final Pattern SHOWN = Pattern.compile(
            "(?:(?:int|long) (?<name>\\w+) = )?(?<call>x\\.(?<called>\\w+)\\(.*\\));"
            + " *// (?:throws (?<thrown>\\w+)|(?<number>-?\\d+))(?::.*)?");
    private static final Pattern MADE = Pattern.compile("Cocite x = new Cocite\\(\\);");

    public static void main(String[] args) throws IOException, InterruptedException {
        List<String> page = Files.readAllLines(PAGE);
        Path place = Files.createTempDirectory("readme");
        try {
            callsAnswerAsTold(blocks(page, "java"), place);
            commandsRun(blocks(page, "sh"), place);
        } finally {
            remove(place);
        }
        allCallsAreShown(blocks(page, "java"));
        allTestsAreNamed(page);
        CHECK.end("ReadmeTest");
    }

    /** The lines of all blocks of this kind, one behind the other. */
    private static List<String> blocks(List<String> page, String kind) {
        List<String> lines = new ArrayList<>();
        String open = "";
        for (String line : page) {
            if (line.startsWith("```")) {
                open = open.isEmpty() ? line : "";
            } else if (open.equals("```" + kind)) {
                lines.add(line);
            }
        }
        return lines;
    }

    /** "each call that it shows answers as it tells": as a program of its own, which javac must take, too. */
    private static void callsAnswerAsTold(List<String> lines, Path place) throws IOException, InterruptedException {
        StringBuilder program = new StringBuilder("public final class ReadmeCalls {\n"
                + "public static void main(String[] args) {\nCheck check = new Check();\n");
        for (String line : lines) {
            program.append(checked(line)).append('\n');
        }
        program.append("check.end(\"the calls of README.md\");\n}\n}\n");
        Path source = place.resolve("ReadmeCalls.java");
        Files.writeString(source, program);
        String classes = Arrays.stream(System.getProperty("java.class.path").split(File.pathSeparator))
                .map(path -> Path.of(path).toAbsolutePath().toString())
                .collect(Collectors.joining(File.pathSeparator));
        runs("javac of the calls", place, "javac", "-cp", classes, "-d", place.toString(), source.toString());
        runs("the calls", place, "java", "-cp", place + File.pathSeparator + classes, "ReadmeCalls");
    }

    private static String checked(String line) {
        if (line.isBlank() || MADE.matcher(line).matches()) {
            return line;
        }
        Matcher shown = SHOWN.matcher(line);
        boolean tells = shown.matches();
        CHECK.due("README.md tells what this answers: " + line, 1, () -> tells ? 1 : 0);
        if (!tells) {
            return "";
        }
        String due = shown.group("thrown") == null ? shown.group("number") + "L" : numberOf(shown.group("thrown"));
        String name = shown.group("name");
        String asked = name == null ? shown.group("call") : name;
        String told = shown.group("call").replace("\\", "\\\\").replace("\"", "\\\"");
        return (name == null ? "" : line + "\n") + "check.due(\"" + told + "\", " + due + ", () -> " + asked + ");";
    }

    private static String numberOf(String thrown) {
        return switch (thrown) {
            case "IllegalArgumentException" -> "Check.ILLEGAL_ARGUMENT";
            case "IllegalStateException" -> "Check.ILLEGAL_STATE";
            case "NoSuchElementException" -> "Check.NO_SUCH_ELEMENT";
            case "IndexOutOfBoundsException" -> "Check.INDEX_OUT_OF_BOUNDS";
            default -> "no exception of the document is named " + thrown;
        };
    }

    /** "each command that it names runs": in a copy, that nothing is left behind here. */
    private static void commandsRun(List<String> commands, Path place) throws IOException, InterruptedException {
        copy(Path.of("src"), place.resolve("src"));
        CHECK.due("commands in README.md", 3, commands::size);
        for (String command : commands) {
            if (command.equals(".ci/run")) {
                // It runs this very test: to run it here would have no end.
                CHECK.due(command + " can be run", 1, () -> Files.isExecutable(Path.of(command)) ? 1 : 0);
            } else {
                runs(command, place, "sh", "-c", command);
            }
        }
    }

    private static void runs(String name, Path place, String... command) throws IOException, InterruptedException {
        File told = place.resolve("told").toFile();
        int ended = new ProcessBuilder(command).directory(place.toFile())
                .redirectErrorStream(true).redirectOutput(told).start().waitFor();
        if (ended != 0) {
            System.out.print(Files.readString(told.toPath()));
        }
        CHECK.due(name + " ends with", 0, () -> ended);
    }

    private static void copy(Path from, Path to) throws IOException {
        try (Stream<Path> paths = Files.walk(from)) {
            for (Path path : paths.toList()) {
                Files.copy(path, to.resolve(from.relativize(path)));
            }
        }
    }

    private static void remove(Path place) throws IOException {
        try (Stream<Path> paths = Files.walk(place)) {
            for (Path path : paths.sorted((one, other) -> other.compareTo(one)).toList()) {
                Files.delete(path);
            }
        }
    }

    /** "README.md says how to use the class": each call of the face once at least. */
    private static void allCallsAreShown(List<String> lines) {
        TreeSet<String> called = new TreeSet<>();
        for (String line : lines) {
            Matcher shown = SHOWN.matcher(line);
            if (shown.matches()) {
                called.add(shown.group("called"));
            }
        }
        for (Method method : Cocite.class.getDeclaredMethods()) {
            if (Modifier.isPublic(method.getModifiers())) {
                CHECK.due("README.md shows " + method.getName(), 1, () -> called.contains(method.getName()) ? 1 : 0);
            }
        }
    }

    /** The table of tests names those that are there. */
    private static void allTestsAreNamed(List<String> page) throws IOException {
        Pattern row = Pattern.compile("\\| `(\\w+)` \\|.*");
        List<String> named = page.stream().map(row::matcher).filter(Matcher::matches)
                .map(found -> found.group(1)).sorted().toList();
        try (Stream<Path> files = Files.list(TESTS)) {
            List<String> there = files.map(file -> file.getFileName().toString())
                    .filter(name -> name.endsWith("Test.java"))
                    .map(name -> name.substring(0, name.length() - ".java".length())).sorted().toList();
            CHECK.due("README.md names " + named + ", there are " + there, 1, () -> named.equals(there) ? 1 : 0);
        }
    }
}
