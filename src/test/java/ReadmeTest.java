import java.io.IOException;
import java.lang.reflect.Method;
import java.lang.reflect.Modifier;
import java.nio.charset.StandardCharsets;
import java.nio.file.Files;
import java.nio.file.Path;
import java.util.ArrayList;
import java.util.List;
import java.util.regex.Matcher;
import java.util.regex.Pattern;

/** README.md: its program is compiled and prints what stands behind its lines; each method of the face is told. */
public final class ReadmeTest {
    private static final Path CLASS = Path.of("src/main/java/CrackedColumn.java");

    public static void main(String[] args) throws IOException, InterruptedException {
        String readme = Files.readString(Path.of("README.md"));
        programPrintsWhatItSays(program(readme));
        eachMethodIsTold(readme);
        Checks.finish();
    }

    private static String program(String readme) {
        Matcher program = Pattern.compile("(?s)```java\n(.*?)```").matcher(readme);
        if (!program.find()) {
            Checks.tell("README.md has no program");
            return "";
        }
        return program.group(1);
    }

    private static void programPrintsWhatItSays(String program) throws IOException, InterruptedException {
        List<String> due = new ArrayList<>();
        for (String line : program.lines().toList()) {
            if (line.contains("System.out.println(")) {
                due.add(line.replaceFirst(".*// ", ""));
            }
        }
        Checks.due("the program prints much", due.size() >= 20 ? 1 : 0, 1);
        Path room = Files.createTempDirectory("readme");
        Path file = room.resolve("Yours.java");
        Files.writeString(file, program);
        String compiled = output("javac", "-Xlint:all", "-encoding", "UTF-8", "-d", room.toString(), CLASS.toString(),
            file.toString());
        Checks.due("the compiler", compiled, "");
        Checks.due("the program of README.md", output("java", "-cp", room.toString(), "Yours"),
            String.join("\n", due));
        remove(room);
    }

    private static String output(String... command) throws IOException, InterruptedException {
        Process process = new ProcessBuilder(command).redirectErrorStream(true).start();
        String text = new String(process.getInputStream().readAllBytes(), StandardCharsets.UTF_8);
        int code = process.waitFor();
        return (code == 0 ? "" : "exit " + code + ": ") + text.strip();
    }

    private static void remove(Path room) throws IOException {
        try (var files = Files.newDirectoryStream(room)) {
            for (Path file : files) {
                Files.delete(file);
            }
        }
        Files.delete(room);
    }

    private static void eachMethodIsTold(String readme) {
        for (Method method : CrackedColumn.class.getDeclaredMethods()) {
            if (Modifier.isPublic(method.getModifiers())) {
                Pattern told = Pattern.compile("`" + method.getName() + "[`(]");
                Checks.due("README.md tells " + method.getName(), told.matcher(readme).find() ? 1 : 0, 1);
            }
        }
    }
}
