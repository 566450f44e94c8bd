import java.io.IOException;
import java.lang.reflect.Method;
import java.lang.reflect.Modifier;
import java.nio.charset.StandardCharsets;
import java.nio.file.Files;
import java.nio.file.Path;
import java.util.ArrayList;
import java.util.Comparator;
import java.util.List;
import java.util.regex.Matcher;
import java.util.regex.Pattern;
import java.util.stream.Stream;

/** What README.md says of the class: its example runs as it stands there, and no call and no test is left out. */
public final class ReadmeTests {
    private static final Path README = Path.of("README.md");
    private static final Path CLASS = Path.of("src/main/java/WordHeap.java");
    private static final Path TESTS = Path.of("src/test/java");

    private static int wrong;
    private static int checks;

    private static void due(String what, Object got, Object want) {
        checks++;
        if (!got.equals(want)) {
            wrong++;
            System.out.println(what + " is\n" + got + "\ndue is\n" + want);
        }
    }

    /** The texts between the fences of one language, in their order. */
    private static List<String> blocks(String readme, String language) {
        List<String> found = new ArrayList<>();
        Matcher m = Pattern.compile("^```" + language + "\n(.*?)^```$", Pattern.DOTALL | Pattern.MULTILINE).matcher(readme);
        while (m.find()) {
            found.add(m.group(1));
        }
        return found;
    }

    /** The commands are run in a directory that has nothing but the class and the example. */
    private static void exampleRunsAsItStands(String readme) throws IOException, InterruptedException {
        List<String> examples = blocks(readme, "java");
        List<String> printed = blocks(readme, "text");
        due("how many examples", examples.size(), 1);
        due("how many things printed", printed.size(), 1);
        if (examples.size() != 1 || printed.size() != 1 || blocks(readme, "sh").isEmpty()) {
            return;
        }
        Path directory = Files.createTempDirectory("readme");
        try {
            Files.createDirectories(directory.resolve(CLASS).getParent());
            Files.copy(CLASS, directory.resolve(CLASS));
            Files.writeString(directory.resolve("Example.java"), examples.get(0));
            Process commands = new ProcessBuilder("sh", "-e", "-c", blocks(readme, "sh").get(0))
                    .directory(directory.toFile()).redirectError(ProcessBuilder.Redirect.INHERIT).start();
            String got = new String(commands.getInputStream().readAllBytes(), StandardCharsets.UTF_8);
            due("the exit code of the commands", commands.waitFor(), 0);
            due("what the example prints", got, printed.get(0));
        } finally {
            delete(directory);
        }
    }

    private static void delete(Path directory) throws IOException {
        try (Stream<Path> all = Files.walk(directory)) {
            for (Path path : all.sorted(Comparator.reverseOrder()).toList()) {
                Files.delete(path);
            }
        }
    }

    /** Each call has a row of its own, with as many parameters as the class wants. */
    private static void everyCallIsTold(String readme) {
        int calls = 0;
        for (Method method : WordHeap.class.getDeclaredMethods()) {
            if (!Modifier.isPublic(method.getModifiers())) {
                continue;
            }
            calls++;
            Matcher m = Pattern.compile("^\\| `" + method.getName() + "\\(([^)]*)\\)` \\|", Pattern.MULTILINE).matcher(readme);
            boolean told = m.find();
            due(method.getName() + " has a row", told, true);
            if (told) {
                int parameters = m.group(1).isEmpty() ? 0 : m.group(1).split(", ").length;
                due("how many parameters of " + method.getName() + " are told", parameters, method.getParameterCount());
            }
        }
        due("how many calls there are", calls, 26);
    }

    private static void everyExceptionIsTold(String readme) {
        for (Method method : WordHeap.class.getDeclaredMethods()) {
            for (Class<?> thrown : method.getExceptionTypes()) {
                due(thrown.getSimpleName() + " has a row", readme.contains("\n| `" + thrown.getSimpleName() + "` |"), true);
            }
        }
    }

    private static void everyTestIsTold(String readme) throws IOException {
        due("how all tests are run", blocks(readme, "sh").contains(".ci/run\n"), true);
        try (Stream<Path> tests = Files.list(TESTS)) {
            for (Path test : tests.toList()) {
                String name = test.getFileName().toString().replace(".java", "");
                due(name + " is told", readme.contains("\n- `" + name + "` "), true);
            }
        }
    }

    public static void main(String[] args) throws IOException, InterruptedException {
        String readme = Files.readString(README);
        exampleRunsAsItStands(readme);
        everyCallIsTold(readme);
        everyExceptionIsTold(readme);
        everyTestIsTold(readme);
        if (wrong > 0) {
            System.exit(1);
        }
        System.out.println(checks + " things that README.md says are so");
    }
}
