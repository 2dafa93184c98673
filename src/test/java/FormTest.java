import java.io.IOException;
import java.lang.reflect.Field;
import java.lang.reflect.Method;
import java.lang.reflect.Modifier;
import java.nio.file.Files;
import java.nio.file.Path;
import java.util.HashSet;
import java.util.Set;
import java.util.regex.Matcher;
import java.util.regex.Pattern;

/** The plainest rules of LANGUAGE.md, held against the source and the compiled class. */
public final class FormTest {
    private static final String[] LEFT_OUT = {"->", "::", "\\bpackage\\b", "\\bfinally\\b", "\\bsynchronized\\b",
        "\\bassert\\b", "\\bcatch\\b", "\\bvolatile\\b", "\\bnative\\b", "\\bthread", "\\brandom", "\\w+Exact\\b",
        "System\\.(?!arraycopy\\b)", "Math\\.(?!min\\b|max\\b|abs\\b)", "\" *\\+", "\\+ *\"", "\\.hashCode\\b",
        "\\.toString\\b", "\\bgetMessage\\b"};
    private static final int MOST_LINES = 60;
    private static final int MOST_PARAMETERS = 7;
    private static final int MOST_CLASSES = 12;
    private static final int MOST_FIELDS = 20;

    public static void main(String[] args) throws IOException {
        String source = Files.readString(Path.of("src/main/java/CrackedColumn.java"));
        String code = source.replaceAll("(?s)/\\*.*?\\*/", "").replaceAll("//[^\n]*", "");
        for (String pattern : LEFT_OUT) {
            Checks.due("places of " + pattern, Pattern.compile(pattern).matcher(code).results().count(), 0);
        }
        Matcher imports = Pattern.compile("import ([^;]*);").matcher(code);
        while (imports.find()) {
            Checks.due("import", imports.group(1), "java.util.NoSuchElementException");
        }
        Checks.due("signs beyond 127", source.chars().filter(sign -> sign > 127).count(), 0);
        methodLengths(code);
        classes();
        Checks.finish();
    }

    private static void methodLengths(String code) {
        Matcher methods = Pattern.compile("(?m)^( +)[^\n=;.]*\\([^\n;]*\\{\n(?s:(.*?))^\\1\\}").matcher(code);
        int found = 0;
        while (methods.find()) {
            found++;
            long lines = methods.group().lines().count();
            Checks.due(methods.group().lines().findFirst().get() + " is short", lines <= MOST_LINES ? 1 : 0, 1);
        }
        Checks.due("methods are found", found > 30 ? 1 : 0, 1);
    }

    private static void classes() {
        Class<?>[] inside = CrackedColumn.class.getDeclaredClasses();
        Checks.due("there are few classes", inside.length < MOST_CLASSES ? 1 : 0, 1);
        look(CrackedColumn.class);
        for (Class<?> one : inside) {
            int seen = one.getModifiers() & (Modifier.PUBLIC | Modifier.PROTECTED);
            Checks.due(one.getName() + " is not public", seen, 0);
            Checks.due(one.getName() + " is static", one.getModifiers() & Modifier.STATIC, Modifier.STATIC);
            look(one);
        }
        Set<String> names = new HashSet<>();
        for (Method method : CrackedColumn.class.getDeclaredMethods()) {
            Checks.due(method.getName() + " is the only one of its name", names.add(method.getName()) ? 1 : 0, 1);
        }
    }

    private static void look(Class<?> one) {
        int own = 0;
        for (Field field : one.getDeclaredFields()) {
            if (Modifier.isStatic(field.getModifiers())) {
                int wanted = Modifier.FINAL;
                Checks.due(field.getName() + " is final", field.getModifiers() & wanted, wanted);
            } else {
                own++;
            }
        }
        Checks.due(one.getName() + " has few fields", own <= MOST_FIELDS ? 1 : 0, 1);
        for (Method method : one.getDeclaredMethods()) {
            boolean few = method.getParameterCount() <= MOST_PARAMETERS;
            Checks.due(method.getName() + " has few parameters", few ? 1 : 0, 1);
        }
    }
}
