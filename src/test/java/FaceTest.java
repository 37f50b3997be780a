import java.lang.reflect.Constructor;
import java.lang.reflect.Field;
import java.lang.reflect.Method;
import java.lang.reflect.Modifier;
import java.util.ArrayList;
import java.util.Arrays;
import java.util.List;
import java.util.TreeSet;

/** The public face, to the letter. */
public final class FaceTest {
    private static final String[] FACE = {
        "int append(int) IllegalArgumentException IllegalStateException",
        "int clearBuffer()",
        "int drop() IllegalStateException",
        "int add() IllegalArgumentException IllegalStateException",
        "int remove() IllegalArgumentException IllegalStateException",
        "int removeAll()",
        "int pack() IllegalStateException",
        "int undo() IllegalStateException",
        "int cell(int,int) IndexOutOfBoundsException IllegalArgumentException",
        "int end(int,int) IndexOutOfBoundsException IllegalArgumentException",
        "int letter(int,int) IndexOutOfBoundsException IllegalArgumentException",
        "int count(int) IllegalArgumentException",
        "int find()",
        "int longest()",
        "int beginning()",
        "int ahead()",
        "int word(int,int) IllegalArgumentException",
        "int ifAdded(int) IllegalArgumentException",
        "int ifPacked()",
        "double fullness()",
        "long digest()",
    };

    public static void main(String[] args) {
        Check.run(FaceTest.class);
    }

    @Says(rule = 1, value = "the class of the document, public and final, with the public constructor, methods and constants "
            + "of the document")
    static void theMethodsOfTheFace() {
        Check.due("the class's modifiers", PackedWords.class.getModifiers(), Modifier.PUBLIC | Modifier.FINAL);
        TreeSet<String> due = new TreeSet<>(Arrays.asList(FACE));
        for (Method method : PackedWords.class.getDeclaredMethods()) {
            if (Modifier.isPublic(method.getModifiers())) {
                Check.dueTrue("the document has " + signature(method), due.remove(signature(method)));
                Check.dueTrue(method + " is no static one", !Modifier.isStatic(method.getModifiers()));
            }
        }
        Check.due("methods of the face that are missing: " + due, due.size(), 0);
        Constructor<?>[] constructors = PackedWords.class.getConstructors();
        Check.due("constructors", constructors.length, 1);
        Check.due("the constructor's parameters", constructors[0].getParameterCount(), 0);
    }

    @Says(rule = 1, value = "and no other public, protected or package-visible member")
    static void allOtherMembersArePrivate() {
        for (Method method : PackedWords.class.getDeclaredMethods()) {
            Check.dueTrue(method + " is public or private", Modifier.isPublic(method.getModifiers())
                    || Modifier.isPrivate(method.getModifiers()));
        }
        for (Field field : PackedWords.class.getDeclaredFields()) {
            Check.dueTrue(field + " is as due", field.getName().equals("NONE") ? Modifier.isPublic(field.getModifiers())
                    : Modifier.isPrivate(field.getModifiers()));
        }
        Check.due("constructors", PackedWords.class.getDeclaredConstructors().length, 1);
    }

    @Says(rule = 1, value = "No private method bears the name of a public one.")
    static void noPrivateMethodBearsAPublicName() {
        for (Method method : PackedWords.class.getDeclaredMethods()) {
            if (Modifier.isPrivate(method.getModifiers())) {
                for (String of : FACE) {
                    Check.dueTrue(method + " has a name of its own", !of.contains(" " + method.getName() + "("));
                }
            }
        }
    }

    private static String signature(Method method) {
        StringBuilder text = new StringBuilder(method.getReturnType().getName());
        List<String> parameters = new ArrayList<>();
        for (Class<?> type : method.getParameterTypes()) {
            parameters.add(type.getName());
        }
        text.append(' ').append(method.getName()).append('(').append(String.join(",", parameters)).append(')');
        for (Class<?> type : method.getExceptionTypes()) {
            text.append(' ').append(type.getSimpleName());
        }
        return text.toString();
    }
}
