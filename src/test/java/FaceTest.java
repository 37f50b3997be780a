import java.io.IOException;
import java.lang.reflect.Constructor;
import java.lang.reflect.Field;
import java.lang.reflect.Method;
import java.lang.reflect.Modifier;
import java.nio.file.Files;
import java.nio.file.Path;
import java.util.ArrayList;
import java.util.Arrays;
import java.util.List;
import java.util.TreeSet;

/** The public face, to the letter, and those rules of LANGUAGE.md that a look at the source can tell. */
public final class FaceTest {
    private static final String[] FACE = {
        "int append(int) IllegalArgumentException IllegalStateException",
        "int clearBuffer()",
        "int drop() IllegalStateException",
        "int add() IllegalArgumentException IllegalStateException",
        "int remove() IllegalArgumentException IllegalStateException",
        "int removeAll()",
        "int pack() IllegalStateException",
        "int undo() IllegalStateException",
        "int cell(int,int) IndexOutOfBoundsException IllegalArgumentException",
        "int end(int,int) IndexOutOfBoundsException IllegalArgumentException",
        "int letter(int,int) IndexOutOfBoundsException IllegalArgumentException",
        "int count(int) IllegalArgumentException",
        "int find()",
        "int longest()",
        "int beginning()",
        "int ahead()",
        "int word(int,int) IllegalArgumentException",
        "int ifAdded(int) IllegalArgumentException",
        "int ifPacked()",
        "double fullness()",
        "long digest()",
    };

    private static final String[] RULED_OUT = {"->", "::", "catch", "finally", "synchronized", "assert", "native",
        "record ", "import static", "Double.", "Exact(", "equals(", "hashCode", "toString", "Random", "nanoTime",
        "currentTimeMillis", "Thread"};

    public static void main(String[] args) throws IOException {
        face();
        source();
        Check.finish("FaceTest");
    }

    private static void face() {
        Check.due("NONE", PackedWords.NONE, -1);
        Check.due("the class is public and final (1 yes)", PackedWords.class.getModifiers() & ~Modifier.PUBLIC,
                Modifier.FINAL);
        TreeSet<String> due = new TreeSet<>(Arrays.asList(FACE));
        TreeSet<String> privates = new TreeSet<>();
        for (Method method : PackedWords.class.getDeclaredMethods()) {
            if (Modifier.isPublic(method.getModifiers())) {
                Check.due("the face has " + signature(method) + " (1 yes)", due.remove(signature(method)) ? 1 : 0, 1);
            } else {
                Check.due(method + " is private (1 yes)", Modifier.isPrivate(method.getModifiers()) ? 1 : 0, 1);
                privates.add(method.getName());
            }
        }
        Check.due("methods of the face that are missing: " + due, due.size(), 0);
        for (String method : FACE) {
            String name = method.substring(method.indexOf(' ') + 1, method.indexOf('('));
            Check.due("a private method named " + name + " (1 yes)", privates.contains(name) ? 1 : 0, 0);
        }
        for (Field field : PackedWords.class.getDeclaredFields()) {
            boolean asDue = field.getName().equals("NONE") ? Modifier.isPublic(field.getModifiers())
                    : Modifier.isPrivate(field.getModifiers());
            Check.due(field + " is as due (1 yes)", asDue ? 1 : 0, 1);
        }
        Constructor<?>[] constructors = PackedWords.class.getDeclaredConstructors();
        Check.due("constructors", constructors.length, 1);
        Check.due("the constructor's parameters", constructors[0].getParameterCount(), 0);
    }

    private static String signature(Method method) {
        StringBuilder text = new StringBuilder(method.getReturnType().getName());
        List<String> parameters = new ArrayList<>();
        for (Class<?> type : method.getParameterTypes()) {
            parameters.add(type.getName());
        }
        text.append(' ').append(method.getName()).append('(').append(String.join(",", parameters)).append(')');
        for (Class<?> type : method.getExceptionTypes()) {
            text.append(' ').append(type.getSimpleName());
        }
        return text.toString();
    }

    private static void source() throws IOException {
        List<String> lines = Files.readAllLines(Path.of("src/main/java/PackedWords.java"));
        int methodStart = 0;
        for (int i = 0; i < lines.size(); i++) {
            String line = lines.get(i);
            String where = "line " + (i + 1);
            String code = line.trim().startsWith("/") || line.trim().startsWith("*") ? "" : line;
            for (String word : RULED_OUT) {
                Check.due(where + " has " + word + " (1 yes)", code.contains(word) ? 1 : 0, 0);
            }
            if (line.startsWith("import")) {
                Check.due(where + " is an import that is allowed (1 yes)",
                        line.equals("import java.util.Arrays;") ? 1 : 0, 1);
            }
            for (char sign : line.toCharArray()) {
                Check.due(where + " has a sign beyond 127 (1 yes)", sign > 127 ? 1 : 0, 0);
            }
            // a line that stands as deep as a member and opens a block begins a method
            if (line.matches("( {4}| {8})\\w.*\\).*\\{")) {
                methodStart = i;
            } else if (line.matches("( {4}| {8})\\}")) {
                Check.due(where + " ends a method of over sixty lines (1 yes)", i - methodStart > 60
                        && line.indexOf('}') == lines.get(methodStart).length()
                        - lines.get(methodStart).stripLeading().length() ? 1 : 0, 0);
            }
        }
    }
}
