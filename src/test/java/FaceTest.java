import java.io.IOException;
import java.lang.reflect.Constructor;
import java.lang.reflect.Field;
import java.lang.reflect.Member;
import java.lang.reflect.Method;
import java.lang.reflect.Modifier;
import java.nio.file.Files;
import java.nio.file.Path;
import java.util.Arrays;
import java.util.TreeSet;

/** The face is the document's: its constants, its constructor and its methods, and no other member. */
public final class FaceTest {
    private static final String[] FACE = {
        "int NONE = -1",
        "int SYNTAX_ERROR = -2",
        "int VALUE_ERROR = -3",
        "int TOO_MANY = -4",
        "new()",
        "int append(int, int, int, int, int) IllegalStateException",
        "int load(int) IllegalArgumentException",
        "int errorPosition()",
        "int count(int) IllegalArgumentException",
        "int row(int, int) IndexOutOfBoundsException IllegalArgumentException",
        "int entry(int) IndexOutOfBoundsException",
        "int piece(int, int) IndexOutOfBoundsException IllegalArgumentException",
        "int pieceOf(int) IllegalArgumentException",
        "int pending(int) IndexOutOfBoundsException",
        "int query(int, int) IllegalArgumentException",
        "int answer(int) IllegalArgumentException NoSuchElementException",
        "int asked(int, int) IndexOutOfBoundsException IllegalArgumentException",
        "int nearest(int, int) IllegalArgumentException",
        "int costOf(int, int) IllegalArgumentException",
        "int scan(int, int, int) IllegalArgumentException",
        "float mean(int, int) IllegalArgumentException NoSuchElementException",
        "int ordered(int) IndexOutOfBoundsException",
        "int insert(int, int) IllegalArgumentException IllegalStateException",
        "int delete(int) IndexOutOfBoundsException IllegalStateException",
        "int mergeAll()",
        "int set(int, int) IllegalArgumentException",
        "int sort(int) IndexOutOfBoundsException",
        "int crack(int) IllegalArgumentException IllegalStateException",
        "int evenCrack() NoSuchElementException",
        "int drop(int) IndexOutOfBoundsException IllegalStateException",
        "int hottest()",
        "int coldestPair() NoSuchElementException",
        "int writePieces()",
        "int writtenByte(int) IndexOutOfBoundsException",
        "int undo() IllegalStateException",
    };

    public static void main(String[] args) throws IllegalAccessException, IOException {
        TreeSet<String> found = new TreeSet<>();
        for (Field field : CrackedColumn.class.getDeclaredFields()) {
            if (isSeen(field)) {
                found.add("int " + field.getName() + " = " + field.getInt(null));
                Checks.due(field.getName() + " is final", field.getModifiers() & Modifier.FINAL, Modifier.FINAL);
            }
        }
        for (Constructor<?> made : CrackedColumn.class.getDeclaredConstructors()) {
            if (isSeen(made)) {
                found.add("new(" + names(made.getParameterTypes(), ", ") + ")");
            }
        }
        for (Method method : CrackedColumn.class.getDeclaredMethods()) {
            if (isSeen(method)) {
                found.add(told(method));
            }
        }
        Checks.due("the face", String.join("\n", found), String.join("\n", new TreeSet<>(Arrays.asList(FACE))));
        int wanted = Modifier.PUBLIC | Modifier.FINAL;
        Checks.due("the class is public and final", CrackedColumn.class.getModifiers() & wanted, wanted);
        Checks.due("the class stands in no package", CrackedColumn.class.getPackageName(), "");
        sourceSaysTheFace();
        Checks.finish();
    }

    /** The lines of the document's face stand in the source, in their order, with the names of what they take. */
    private static void sourceSaysTheFace() throws IOException {
        String document = Files.readString(Path.of("../shared/DOC.md"));
        String source = Files.readString(Path.of("src/main/java/CrackedColumn.java"));
        int start = document.indexOf("```java\n", document.indexOf("## The public face")) + 8;
        String face = document.substring(start, document.indexOf("```", start));
        int at = 0;
        int lines = 0;
        for (String line : face.lines().toList()) {
            if (line.isBlank()) {
                continue;
            }
            String words = line.contains("(") ? line.strip().replaceFirst(";$", " {") : line.strip();
            int found = source.indexOf(words, at);
            Checks.due("the source says behind the lines before: " + words, found >= 0 ? 1 : 0, 1);
            at = found >= 0 ? found + words.length() : at;
            lines++;
        }
        Checks.due("lines of the face", lines, FACE.length + 3);
    }

    private static boolean isSeen(Member member) {
        return !Modifier.isPrivate(member.getModifiers()) && !member.isSynthetic();
    }

    private static String told(Method method) {
        String thrown = names(method.getExceptionTypes(), " ");
        return method.getReturnType().getSimpleName() + " " + method.getName()
            + "(" + names(method.getParameterTypes(), ", ") + ")" + (thrown.isEmpty() ? "" : " " + thrown);
    }

    private static String names(Class<?>[] types, String between) {
        StringBuilder text = new StringBuilder();
        for (Class<?> type : types) {
            text.append(text.length() > 0 ? between : "").append(type.getSimpleName());
        }
        return text.toString();
    }
}
