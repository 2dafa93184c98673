import java.io.IOException;
import java.nio.file.Files;
import java.nio.file.Path;
import java.util.ArrayList;
import java.util.LinkedHashMap;
import java.util.List;
import java.util.Map;
import java.util.function.Consumer;
import java.util.function.Function;
import java.util.function.Supplier;
import java.util.regex.Matcher;
import java.util.regex.Pattern;

/** Tests that bear words of the document, and the check that no sentence of it is without one. */
final class Edges {
    private static final Path DOCUMENT = Path.of("../shared/DOC.md");
    private static final Pattern TERMS = Pattern.compile("([1-6])\\. [A-Z ]+");
    private static final Pattern PROMISE = Pattern.compile("## Promise ([0-9]+): .*");
    // The face in front of what a promise says.
    private static final Pattern FACE = Pattern.compile("`[A-Za-z ]+\\([^`]*`: ");

    private static final Map<String, Section> SECTIONS = read();

    private Edges() {
    }

    /** The text of a section in one line, the ends of its sentences, and which of them have a test. */
    private static final class Section {
        final StringBuilder text = new StringBuilder();
        final List<Integer> ends = new ArrayList<>();
        final List<Boolean> tested = new ArrayList<>();

        void add(String sentence) {
            text.append(sentence).append(' ');
            ends.add(text.length());
            tested.add(false);
        }

        void mark(int from, int to) {
            int start = 0;
            for (int i = 0; i < ends.size(); i++) {
                if (from < ends.get(i) - 1 && to > start) {
                    tested.set(i, true);
                }
                start = ends.get(i);
            }
        }
    }

    private static Map<String, Section> read() {
        Map<String, Section> sections = new LinkedHashMap<>();
        Section section = null;
        for (String line : lines()) {
            Matcher terms = TERMS.matcher(line);
            Matcher promise = PROMISE.matcher(line);
            if (terms.matches() || promise.matches()) {
                section = new Section();
                sections.put(terms.matches() ? "Terms " + terms.group(1) : "Promise " + promise.group(1), section);
            } else if (line.startsWith("#") || line.startsWith("Ahead of the calls ")) {
                section = null;
            } else if (section != null && !line.isBlank() && !line.startsWith("```")) {
                addLine(section, line);
            }
        }
        return sections;
    }

    private static List<String> lines() {
        try {
            return Files.readAllLines(DOCUMENT);
        } catch (IOException e) {
            Checks.tell("the document is not read: " + e);
            return List.of();
        }
    }

    private static void addLine(Section section, String line) {
        if (line.startsWith("- ")) {
            section.add(line.substring(2));
            return;
        }
        String words = FACE.matcher(line.strip()).replaceFirst("").replaceFirst("^[0-9]\\. ", "");
        for (String sentence : words.split("(?<=\\.\\)?) ")) {
            section.add(sentence);
        }
    }

    /** One test of what these words of a section say. */
    static void edge(String name, String words, Checks.Call test) {
        Section section = SECTIONS.get(name);
        int from = section == null ? -1 : section.text.indexOf(words);
        if (from < 0) {
            Checks.tell(name + " does not say: " + words);
        } else {
            section.mark(from, from + words.length());
        }
        Checks.about(name + " (" + words + "): ");
        try {
            test.run();
        } catch (RuntimeException e) {
            Checks.tell("threw " + e);
        }
        Checks.about("");
    }

    /** Ends the tests of these sections, each sentence of which must have borne one. */
    static void finish(String kind, int first, int last) {
        for (int number = first; number <= last; number++) {
            Section section = SECTIONS.get(kind + " " + number);
            if (section == null) {
                Checks.tell("the document has no section " + kind + " " + number);
                continue;
            }
            int start = 0;
            for (int i = 0; i < section.ends.size(); i++) {
                if (!section.tested.get(i)) {
                    Checks.tell(kind + " " + number + " has no test of: " + section.text.substring(start, section.ends.get(i)));
                }
                start = section.ends.get(i);
            }
        }
        Checks.finish();
    }

    /** The call throws this very exception, and behind it all is as on a twin that was not called so. */
    static void refused(Supplier<CrackedColumn> made, String call, Class<?> due, Consumer<CrackedColumn> run) {
        Checks.due(call + " throws", thrown(made.get(), run), due.getSimpleName());
        alike(call, () -> {
            CrackedColumn called = made.get();
            thrown(called, run);
            return called;
        }, made);
    }

    /** The call answers: a number next to those that are refused. */
    static void allowed(Supplier<CrackedColumn> made, String call, Consumer<CrackedColumn> run) {
        Checks.due(call + " throws", thrown(made.get(), run), "nothing");
    }

    static String thrown(CrackedColumn column, Consumer<CrackedColumn> run) {
        try {
            run.accept(column);
        } catch (RuntimeException e) {
            return e.getClass().getSimpleName();
        }
        return "nothing";
    }

    /** All that can be told behind the call is as due: the state, the changes and the texts. */
    static void alike(String call, Supplier<CrackedColumn> made, Supplier<CrackedColumn> due) {
        sameState(call, made, due);
        sameChanges(call, made, due);
        same("texts behind " + call, made, due, Edges::texts);
    }

    /** All that an undo brings back is as due. */
    static void sameState(String call, Supplier<CrackedColumn> made, Supplier<CrackedColumn> due) {
        same("lists behind " + call, made, due, Checks::lists);
        same("keys and values behind " + call, made, due, column -> Checks.rows(column, 0, 1));
        same("states and places behind " + call, made, due, column -> Checks.rows(column, 2, 3));
        same("pieces behind " + call, made, due, column -> Checks.pieces(column, 0, 5));
        same("kept queries behind " + call, made, due, Checks::kept);
    }

    /** What undo answers, and what is there behind it, is as due, for any number of undos. */
    static void sameChanges(String call, Supplier<CrackedColumn> made, Supplier<CrackedColumn> due) {
        for (int undos = 1; undos <= 9; undos++) {
            int count = undos;
            same(undos + " undos behind " + call, made, due, column -> undone(column, count));
        }
    }

    /** Each part is asked of objects of its own, as an object answers as promised for 512 calls alone. */
    private static void same(String what, Supplier<CrackedColumn> made, Supplier<CrackedColumn> due,
            Function<CrackedColumn, String> part) {
        Checks.due(what, part.apply(made.get()), part.apply(due.get()));
    }

    private static String undone(CrackedColumn column, int count) {
        StringBuilder text = new StringBuilder();
        for (int i = 0; i < count; i++) {
            text.append(thrown(column, c -> text.append(c.undo()))).append(' ');
        }
        return text + Checks.lists(column) + Checks.pieces(column, 3, 4);
    }

    private static String texts(CrackedColumn column) {
        StringBuilder text = new StringBuilder();
        text.append("error ").append(column.errorPosition()).append(", written ").append(Checks.written(column));
        int length = bufferLength(column);
        text.append(", buffer of ").append(length);
        text.append(", read as ").append(column.load(Math.min(length + 20, 900)));
        return text.append(" at ").append(column.errorPosition()).toString();
    }

    /** How many changes can be undone; they are undone by this. */
    static int undoCount(CrackedColumn column) {
        for (int count = 0; count < 20; count++) {
            if (thrown(column, c -> c.undo()).equals("IllegalStateException")) {
                return count;
            }
        }
        return -1;
    }

    /** The length of the text buffer, to which 20 bytes are appended if there is room. */
    static int bufferLength(CrackedColumn column) {
        try {
            return column.append(0x20202020, 0x20202020, 0x20202020, 0x20202020, 0x20202020) - 20;
        } catch (IllegalStateException e) {
            return 900;
        }
    }
}
