import java.io.IOException;
import java.net.URL;
import java.net.URLClassLoader;
import java.nio.file.Files;
import java.nio.file.Path;
import java.util.List;
import java.util.TreeSet;
import java.util.regex.Matcher;
import java.util.regex.Pattern;
import java.util.stream.Collectors;
import java.util.stream.Stream;
import javax.tools.ToolProvider;

/** README.md tells the truth: its example's answers are those that stand behind them, and its files are there. */
public final class ReadmeTest {
    private static final Path README = Path.of("README.md");
    private static final Path TESTS = Path.of("src/test/java");
    private static final Pattern ANSWERED = Pattern.compile("(words\\.[^;]*);\\s*// (-?\\d+): .*");

    public static void main(String[] args) throws IOException, ReflectiveOperationException {
        theExampleAnswersWhatItSays();
        theFilesAreThere();
        theTestsAreNamed();
        Check.finish("ReadmeTest");
    }

    private static void theExampleAnswersWhatItSays() throws IOException, ReflectiveOperationException {
        List<String> example = example();
        StringBuilder program = new StringBuilder();
        program.append("public final class Example {\npublic static void run(long[] got) {\n");
        long[] want = new long[example.size()];
        int answered = 0;
        for (int i = 0; i < want.length; i++) {
            Matcher line = ANSWERED.matcher(example.get(i));
            if (line.matches()) {
                want[i] = Long.parseLong(line.group(2));
                program.append("got[").append(i).append("] = ").append(line.group(1)).append(";\n");
                answered++;
            } else {
                program.append(example.get(i)).append("\n");
            }
        }
        long[] got = new long[want.length];
        run(program.append("}\n}\n").toString(), got);
        for (int i = 0; i < want.length; i++) {
            Check.due("README.md, " + example.get(i), got[i], want[i]);
        }
        Check.dueTrue("the example has calls with answers", answered > 5);
    }

    private static List<String> example() throws IOException {
        List<String> lines = Files.readAllLines(README);
        int start = lines.indexOf("```java") + 1;
        int length = lines.subList(start, lines.size()).indexOf("```");
        return lines.subList(start, start + length);
    }

    private static void run(String program, long[] got) throws IOException, ReflectiveOperationException {
        Path directory = Files.createTempDirectory("readme");
        Path file = directory.resolve("Example.java");
        Files.writeString(file, program);
        int failed = ToolProvider.getSystemJavaCompiler().run(null, null, null, "-proc:none", "-cp",
                System.getProperty("java.class.path"), "-d", directory.toString(), file.toString());
        Check.due("errors in the example", failed, 0);
        try (URLClassLoader classes = new URLClassLoader(new URL[] {directory.toUri().toURL()})) {
            classes.loadClass("Example").getMethod("run", long[].class).invoke(null, (Object) got);
        } finally {
            Files.deleteIfExists(directory.resolve("Example.class"));
            Files.deleteIfExists(file);
            Files.deleteIfExists(directory);
        }
    }

    private static void theFilesAreThere() throws IOException {
        Pattern paths = Pattern.compile("(?:\\.\\./shared|src|\\.ci)/[A-Za-z/]+(?:\\.java|\\.md)?");
        Matcher path = paths.matcher(Files.readString(README));
        int named = 0;
        while (path.find()) {
            named++;
            Check.dueTrue("README.md names " + path.group() + ", which is there", Files.exists(Path.of(path.group())));
        }
        Check.dueTrue("README.md names some files", named > 5);
    }

    private static void theTestsAreNamed() throws IOException {
        TreeSet<String> named = new TreeSet<>();
        Matcher name = Pattern.compile("`([A-Z][A-Za-z]+)`").matcher(Files.readString(README));
        while (name.find()) {
            if (!name.group(1).endsWith("Exception") && !name.group(1).equals("PackedWords")) {
                named.add(name.group(1));
            }
        }
        try (Stream<Path> files = Files.list(TESTS)) {
            TreeSet<String> there = files.map(file -> file.getFileName().toString().replace(".java", ""))
                    .collect(Collectors.toCollection(TreeSet::new));
            Check.dueText("the tests and helpers that README.md names", named.toString(), there.toString());
        }
    }
}
