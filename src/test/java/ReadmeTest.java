import java.io.IOException;
import java.lang.reflect.Method;
import java.lang.reflect.Modifier;
import java.nio.file.Files;
import java.nio.file.Path;
import java.util.ArrayList;
import java.util.Comparator;
import java.util.List;
import java.util.TreeSet;
import java.util.regex.Matcher;
import java.util.regex.Pattern;
import java.util.stream.Collectors;
import java.util.stream.Stream;

/** What README.md says is so: its example, its commands, and its tables of calls and of tests. */
public final class ReadmeTest {
    private static final Path README = Path.of("README.md");
    private static final Path SOURCES = Path.of("src");
    private static final Path TESTS = Path.of("src/test/java");
    private static final Path CI = Path.of(".ci/run");

    public static void main(String[] args) throws IOException, InterruptedException {
        String readme = Files.readString(README);
        // The commands write files, so they are given a copy of the project.
        Path copy = Files.createTempDirectory("readme");
        try {
            copyTree(SOURCES, copy.resolve(SOURCES));
            exampleAnswersAsShown(readme, copy);
            commandsRun(readme, copy);
        } finally {
            removeTree(copy);
        }
        callsAreTheFaces(readme);
        testsAreTheProjects(readme);
        Check.end("ReadmeTest");
    }

    private static void exampleAnswersAsShown(String readme, Path copy) throws IOException, InterruptedException {
        String example = onlyBlock(readme, "java");
        Matcher name = Pattern.compile("public final class (\\w+) ").matcher(example);
        String file = (name.find() ? name.group(1) : "no class") + ".java";
        Check.yes("the page names its file " + file, readme.contains("`" + file + "`"));
        Files.writeString(copy.resolve(file), example);
        StringBuilder printed = new StringBuilder();
        Check.same("exit code of the example's commands", shell(commands(readme).get(0), copy, printed), 0);
        Check.yes("the example prints\n" + printed, printed.toString().equals(onlyBlock(readme, "text")));
    }

    private static void commandsRun(String readme, Path copy) throws IOException, InterruptedException {
        List<String> commands = commands(readme);
        // That one runs this test, too.
        Check.yes("the tests are run by .ci/run", commands.get(1).equals(".ci/run\n"));
        Check.yes(CI + " can be run", Files.isExecutable(CI));
        StringBuilder printed = new StringBuilder();
        Check.same("exit code of the commands for one test", shell(commands.get(2), copy, printed), 0);
        Check.yes("one test prints\n" + printed, printed.toString().contains(" checks, 0 wrong\n"));
    }

    /** Those for the example, for all tests, and for one test. */
    private static List<String> commands(String readme) {
        List<String> all = blocks(readme, "sh");
        Check.same("blocks of commands", all.size(), 3);
        while (all.size() < 3) {
            all.add("false");
        }
        return all;
    }

    private static int shell(String commands, Path directory, StringBuilder printed)
            throws IOException, InterruptedException {
        Process process = new ProcessBuilder("sh", "-e", "-c", commands).directory(directory.toFile())
            .redirectErrorStream(true).start();
        printed.append(new String(process.getInputStream().readAllBytes()));
        return process.waitFor();
    }

    /** Each call of the face has a row, with its parameters' number and the exceptions of its clause. */
    private static void callsAreTheFaces(String readme) {
        List<String> due = new ArrayList<>();
        for (Method method : PhaseConverter.class.getDeclaredMethods()) {
            if (Modifier.isPublic(method.getModifiers())) {
                String exceptions = Stream.of(method.getExceptionTypes()).map(Class::getSimpleName)
                    .collect(Collectors.joining(", "));
                due.add(method.getName() + " " + method.getParameterCount() + " " + exceptions);
            }
        }
        List<String> told = new ArrayList<>();
        Matcher row = Pattern.compile("(?m)^\\| `(\\w+)\\(([^)]*)\\)` \\|.*\\| ([^|]*) \\|$").matcher(readme);
        while (row.find()) {
            int parameters = row.group(2).isEmpty() ? 0 : row.group(2).split(", ").length;
            told.add(row.group(1) + " " + parameters + " " + row.group(3).replace("-", ""));
        }
        due.sort(Comparator.naturalOrder());
        told.sort(Comparator.naturalOrder());
        Check.yes("the calls are " + due + ", told are " + told, due.equals(told));
    }

    private static void testsAreTheProjects(String readme) throws IOException {
        TreeSet<String> due;
        try (Stream<Path> files = Files.list(TESTS)) {
            due = files.map(file -> file.getFileName().toString()).filter(file -> file.endsWith("Test.java"))
                .map(file -> file.replace(".java", "")).collect(Collectors.toCollection(TreeSet::new));
        }
        TreeSet<String> told = new TreeSet<>();
        Matcher row = Pattern.compile("(?m)^\\| `(\\w+Test)` \\|").matcher(readme);
        while (row.find()) {
            Check.yes("one row for " + row.group(1), told.add(row.group(1)));
        }
        Check.yes("the tests are " + due + ", told are " + told, due.equals(told));
    }

    private static List<String> blocks(String readme, String kind) {
        List<String> all = new ArrayList<>();
        Matcher block = Pattern.compile("(?ms)^```" + kind + "\n(.*?)^```$").matcher(readme);
        while (block.find()) {
            all.add(block.group(1));
        }
        return all;
    }

    private static String onlyBlock(String readme, String kind) {
        List<String> all = blocks(readme, kind);
        Check.same("blocks of the kind " + kind, all.size(), 1);
        return String.join("", all);
    }

    private static void copyTree(Path from, Path to) throws IOException {
        for (Path path : allUnder(from)) {
            Path target = to.resolve(from.relativize(path));
            if (Files.isDirectory(path)) {
                Files.createDirectories(target);
            } else {
                Files.copy(path, target);
            }
        }
    }

    private static void removeTree(Path root) throws IOException {
        List<Path> all = new ArrayList<>(allUnder(root));
        all.sort(Comparator.reverseOrder());
        for (Path path : all) {
            Files.delete(path);
        }
    }

    private static List<Path> allUnder(Path root) throws IOException {
        try (Stream<Path> all = Files.walk(root)) {
            return all.toList();
        }
    }
}
