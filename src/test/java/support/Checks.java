import java.nio.charset.StandardCharsets;
import java.util.function.IntBinaryOperator;

/** What all tests of the project use: the due answers, refused calls, and all that can be seen of an object. */
final class Checks {
    interface Call {
        void run();
    }

    private static int wrong = 0;
    private static String about = "";

    private Checks() {
    }

    /** What the next tests are about is told ahead of what is wrong in them. */
    static void about(String what) {
        about = what;
    }

    static void due(String call, long got, long want) {
        if (got != want) {
            tell(call + " answered " + got + ", due is " + want);
        }
    }

    static void due(String call, String got, String want) {
        if (!got.equals(want)) {
            tell(call + " answered " + got + ", due is " + want);
        }
    }

    /** The exception must be of the very class: a class below it is one that the machine throws. */
    static void refused(CrackedColumn column, String call, Class<?> due, Call run) {
        String before = view(column);
        String got = "nothing";
        try {
            run.run();
        } catch (RuntimeException e) {
            got = e.getClass().getSimpleName();
        }
        due(call + " throws", got, due.getSimpleName());
        due("all that is seen after " + call, view(column), before);
    }

    static void tell(String message) {
        wrong++;
        if (wrong <= 50) {
            System.out.println(about + message);
        }
    }

    static void finish() {
        if (wrong > 0) {
            System.out.println(wrong + " answers are not as due");
            System.exit(1);
        }
        System.out.println("all answers are as due");
    }

    /** Appends the text, with spaces up to the next 20 bytes, and loads the text alone. */
    static int load(CrackedColumn column, String text) {
        append(column, text);
        return column.load(text.length());
    }

    static int append(CrackedColumn column, String text) {
        byte[] bytes = text.getBytes(StandardCharsets.ISO_8859_1);
        int length = 0;
        for (int from = 0; from < bytes.length; from += 20) {
            int[] words = new int[5];
            for (int i = 0; i < 20; i++) {
                int value = from + i < bytes.length ? bytes[from + i] & 255 : ' ';
                words[i / 4] = words[i / 4] << 8 | value;
            }
            length = column.append(words[0], words[1], words[2], words[3], words[4]);
        }
        return length;
    }

    static CrackedColumn loaded(String text) {
        CrackedColumn column = new CrackedColumn();
        int code = load(column, text);
        if (code < 0) {
            tell("load of " + text + " answered " + code);
        }
        return column;
    }

    static String pieces(CrackedColumn column) {
        column.writePieces();
        return written(column);
    }

    static String written(CrackedColumn column) {
        StringBuilder text = new StringBuilder();
        try {
            for (int i = 0; i < 100000; i++) {
                text.append((char) column.writtenByte(i));
            }
        } catch (IndexOutOfBoundsException e) {
            return text.toString();
        }
        return "a text without an end";
    }

    static String entries(CrackedColumn column) {
        StringBuilder text = new StringBuilder();
        int size = column.count(2);
        for (int place = 0; place < size; place++) {
            text.append(place > 0 ? " " : "").append(column.entry(place));
        }
        return text.toString();
    }

    static String pendingRows(CrackedColumn column) {
        StringBuilder text = new StringBuilder();
        int size = column.count(3);
        for (int place = 0; place < size; place++) {
            text.append(place > 0 ? " " : "").append(column.pending(place));
        }
        return text.toString();
    }

    /** All numbers of the latest answer. */
    static String answers(CrackedColumn column) {
        StringBuilder text = new StringBuilder();
        try {
            for (int what = 0; what <= 8; what++) {
                text.append(what > 0 ? " " : "").append(column.answer(what));
            }
        } catch (java.util.NoSuchElementException e) {
            text.append("none");
        }
        return text.toString();
    }

    /** All that an undo brings back. */
    static String state(CrackedColumn column) {
        return lists(column) + rows(column, 0, 3) + pieces(column, 0, 5) + kept(column);
    }

    /** The counts, the index, the pending rows and the latest answer. */
    static String lists(CrackedColumn column) {
        StringBuilder text = new StringBuilder("counts");
        for (int what = 0; what <= 11; what++) {
            text.append(' ').append(column.count(what));
        }
        text.append("\nentries ").append(entries(column));
        text.append("\npending ").append(pendingRows(column));
        return text.append("\nanswer ").append(answers(column)).toString();
    }

    static String rows(CrackedColumn column, int from, int to) {
        return table("row", column.count(0), from, to, column::row);
    }

    static String pieces(CrackedColumn column, int from, int to) {
        return table("piece", column.count(4), from, to, column::piece);
    }

    static String kept(CrackedColumn column) {
        return table("asked", column.count(11), 0, 4, column::asked);
    }

    private static String table(String name, int lines, int from, int to, IntBinaryOperator number) {
        StringBuilder text = new StringBuilder();
        for (int line = 0; line < lines; line++) {
            text.append('\n').append(name);
            for (int what = from; what <= to; what++) {
                text.append(' ').append(number.applyAsInt(line, what));
            }
        }
        return text.toString();
    }

    static String view(CrackedColumn column) {
        return state(column) + "\nerror " + column.errorPosition() + "\nwritten " + written(column);
    }
}
