import java.io.IOException;
import java.lang.reflect.Method;
import java.nio.file.Files;
import java.nio.file.Path;
import java.util.ArrayList;
import java.util.List;
import java.util.TreeMap;

/** Sees that the tests' words are those of DOC.md and LANGUAGE.md, and that no words of DOC.md are without a test. */
public final class SentencesTest {
    private static final Path DOC = Path.of("../shared/DOC.md");
    private static final Path LANGUAGE = Path.of("../shared/LANGUAGE.md");
    private static final int TERMS = 0;
    private static final int PROMISES = 22;
    private static final int RULES = 13;

    private static final Class<?>[] TESTS = {BufferTest.class, CellsTest.class, EndsTest.class, AddingTest.class,
        RemovingTest.class, PackTest.class, UndoTest.class, ExceptionsTest.class, LooksTest.class, ForecastTest.class,
        DigestTest.class, FaceTest.class, LanguageTest.class, SentencesTest.class};

    public static void main(String[] args) {
        Check.run(SentencesTest.class);
    }

    /** The texts of "Terms" (0) and of the promises (1 to 22), without headings and signatures, each in one line. */
    private static TreeMap<Integer, String> document() throws IOException {
        TreeMap<Integer, String> sections = new TreeMap<>();
        int section = -1;
        for (String line : Files.readAllLines(DOC)) {
            if (line.startsWith("## ")) {
                section = line.equals("## Terms") ? TERMS
                        : line.startsWith("## Promise ") ? Integer.parseInt(line.substring(11, line.indexOf(':'))) : -1;
            } else if (section >= TERMS && !line.startsWith("#") && !line.equals("Words, cells")) {
                String text = section == TERMS ? line : line.replaceFirst("^`[^`]*\\)[^`]*`: ", "");
                sections.merge(section, text, (before, more) -> before + " " + more);
            }
        }
        sections.replaceAll((number, text) -> inOneLine(text));
        return sections;
    }

    private static TreeMap<Integer, String> rules() throws IOException {
        TreeMap<Integer, String> rules = new TreeMap<>();
        int rule = 0;
        for (String line : Files.readAllLines(LANGUAGE)) {
            if (line.matches("\\d+\\. .*")) {
                rule = Integer.parseInt(line.substring(0, line.indexOf('.')));
            }
            rules.merge(rule, line, (before, more) -> before + " " + more);
        }
        rules.replaceAll((number, text) -> inOneLine(text));
        return rules;
    }

    private static String inOneLine(String text) {
        return text.replaceAll("\\s+", " ").trim();
    }

    private static List<Says> said() {
        List<Says> said = new ArrayList<>();
        for (Class<?> tests : TESTS) {
            for (Method method : tests.getDeclaredMethods()) {
                said.addAll(List.of(method.getAnnotationsByType(Says.class)));
            }
        }
        return said;
    }

    @Says(rule = 4, value = "only what stands here.")
    static void theTestsWordsStandInTheDocuments() throws IOException {
        TreeMap<Integer, String> document = document();
        TreeMap<Integer, String> rules = rules();
        Check.due("the sections", document.size(), 1 + PROMISES);
        Check.due("the last rule", rules.lastKey(), RULES);
        for (Says says : said()) {
            String where = says.rule() > 0 ? rules.get(says.rule()) : document.get(says.promise());
            for (String words : says.value()) {
                Check.dueTrue("\"" + words + "\" stands under " + (says.rule() > 0 ? "rule " + says.rule()
                        : "promise " + says.promise()), where.contains(words));
            }
        }
    }

    @Says(promise = 1, value = "Creates a table")
    static void noWordsOfTheDocumentAreWithoutATest() throws IOException {
        TreeMap<Integer, String> document = document();
        for (int section = TERMS; section <= PROMISES; section++) {
            String text = document.get(section);
            boolean[] tested = new boolean[text.length()];
            for (Says says : said()) {
                if (says.rule() == 0 && says.promise() == section) {
                    mark(text, says.value(), tested);
                }
            }
            Check.dueText("the words under promise " + section + " (0: Terms) that no test names",
                    untested(text, tested), "");
        }
    }

    private static void mark(String text, String[] quotes, boolean[] tested) {
        for (String words : quotes) {
            for (int at = text.indexOf(words); at >= 0; at = text.indexOf(words, at + 1)) {
                for (int i = at; i < at + words.length(); i++) {
                    tested[i] = true;
                }
            }
        }
    }

    private static String untested(String text, boolean[] tested) {
        StringBuilder left = new StringBuilder();
        for (int i = 0; i < text.length(); i++) {
            if (!tested[i]) {
                left.append(text.charAt(i));
            } else if (left.length() > 0 && left.charAt(left.length() - 1) != '|') {
                left.append('|');
            }
        }
        // what is left between the tests' words may be signs, but no words
        return left.toString().matches("[^A-Za-z0-9]*") ? "" : left.toString();
    }

    @Says(rule = 1, value = "The face")
    static void eachRuleHasATest() {
        for (int rule = 1; rule <= RULES; rule++) {
            boolean named = false;
            for (Says says : said()) {
                named = named || says.rule() == rule;
            }
            Check.dueTrue("rule " + rule + " has a test", named);
        }
    }
}
