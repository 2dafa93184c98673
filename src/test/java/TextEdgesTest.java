import java.util.ArrayList;
import java.util.List;
import java.util.NoSuchElementException;
import java.util.function.Consumer;
import java.util.function.Supplier;

/** Terms 5 and 6: each sentence about texts, changes and exceptions, at its boundaries. */
public final class TextEdgesTest {
    // keys 50 10 30 70 20
    private static final String FIVE = "row 50 1;row 10 2;row 30 3;row 70 4;row 20 5;";
    private static final String FULL = "row5 1;".repeat(120);

    public static void main(String[] args) {
        textLength();
        grammar();
        alternatives();
        words();
        numbers();
        spaces();
        settings();
        firstError();
        codesAtOnePosition();
        tokensNotAllowed();
        bytesNotAllowed();
        endOfText();
        valuesOutOfRange();
        tooManyRows();
        whatIsAChange();
        whatIsNoChange();
        eightChanges();
        undoBringsBack();
        undoLeaves();
        exceptionsChangeNothing();
        firstException();
        indices();
        constants();
        Edges.finish("Terms", 5, 6);
    }

    private static void edge(int section, String words, Checks.Call test) {
        Edges.edge("Terms " + section, words, test);
    }

    /** Loads the text into a column that is there; an error leaves it as it is. */
    private static void loads(String text, int code, int position) {
        CrackedColumn c = Checks.loaded("row 1 1;hot 7;");
        Checks.due("load of '" + text + "'", Checks.load(c, text), code);
        Checks.due("position in '" + text + "'", c.errorPosition(), position);
        Checks.due("changes behind '" + text + "'", Edges.undoCount(c), code < 0 ? 1 : 2);
    }

    private static void good(String text, int rows) {
        loads(text, rows, -1);
    }

    private static void syntax(String text, int position) {
        loads(text, -2, position);
    }

    private static void value(String text, int position) {
        loads(text, -3, position);
    }

    private static void tooMany(String text, int position) {
        loads(text, -4, position);
    }

    private static String settings(CrackedColumn c) {
        return c.count(6) + " " + c.count(7) + " " + c.count(8) + " " + c.count(9);
    }

    // ---- 5. texts

    private static void textLength() {
        edge(5, "A column is read from a text of at most 900 bytes:", () -> {
            good(" ".repeat(893) + "row1 1;", 1);
            good(" ".repeat(892) + "row1 1; ", 1);
            syntax(" ".repeat(894) + "row1 1", 900);
            syntax(" ".repeat(899) + ";", 899);
            value(" ".repeat(895) + "hot21", 898);
            tooMany(FULL + " ".repeat(57) + "row", 897);
            Edges.refused(() -> {
                CrackedColumn c = new CrackedColumn();
                Checks.append(c, " ".repeat(900));
                return c;
            }, "append beyond 900", IllegalStateException.class, c -> c.append(0, 0, 0, 0, 0));
        });
    }

    private static void grammar() {
        edge(5, "text = { statement \";\" } .", () -> {
            good("", 0);
            good("hot 1;", 0);
            good("row 1 1;row 1 1;", 2);
            syntax(";", 0);
            syntax("row 1 1;;", 8);
            syntax("row 1 1; ;", 9);
            syntax("row 1 1", 7);
            syntax("row 1 1 row 1 1;", 8);
            syntax("hot 1 hot 1;", 6);
        });
        edge(5, "statement = \"row\" N [ \"-\" ] N | \"hot\" N | \"size\" N | \"pieces\" N | \"pending\" N .", () -> {
            good("row 1 2;", 1);
            good("row 1 - 2;", 1);
            good("hot 1;size 2;pieces 2;pending 1;", 0);
            syntax("row - 1 2;", 4);
            syntax("row 1 - - 2;", 8);
            syntax("row 1 2 3;", 8);
            syntax("row 1 2 -;", 8);
            syntax("row 1;", 5);
            syntax("row 1 -;", 7);
            syntax("row;", 3);
            for (String word : new String[] {"hot", "size", "pieces", "pending"}) {
                syntax(word + ";", word.length());
                syntax(word + " - 3;", word.length() + 1);
                syntax(word + " 3 - ;", word.length() + 3);
                syntax(word + " 3 3;", word.length() + 3);
            }
        });
    }

    private static void alternatives() {
        edge(5, "Braces mean any number of repetitions, brackets an optional part, | separates alternatives, quoted parts stand"
            + " for themselves.", () -> {
            good("row 1 1;", 1);
            good(FULL + "hot 1;".repeat(10), 120);
            good("hot 1;".repeat(150), 0);
            good("size 2;row 1 1;pending 1;row 1 -1;hot 1;pieces 2;row 1 -0;", 3);
            syntax("ROW 1 1;", 0);
            syntax("Hot 1;", 0);
            syntax("row 1 \"-\" 1;", 6);
            syntax("{row 1 1;}", 0);
            syntax("hot [1];", 4);
        });
    }

    private static void words() {
        edge(5, "A word is the longest possible sequence of the letters a to z", () -> {
            for (String word : new String[] {"rowa", "rowz", "arow", "ro", "r", "hots", "ho", "sizes", "siz", "piece",
                "piecess", "pendings", "pendin", "pend", "rowrow", "hotrow", "a", "z", "low", "rew", "rob", "not", "hit", "hop",
                "gize", "sixe", "sizz", "niecess", "piecez", "bending", "pendinh"}) {
                syntax(word + " 1 1;", 0);
                syntax(word, 0);
            }
            syntax("ro w 1 1;", 0);
            // '`' and '{' stand next to the letters a and z, 'A' and 'Z' are none
            for (String sign : new String[] {"`", "{", "A", "Z", "_"}) {
                syntax("row" + sign + " 1 1;", 3);
                syntax(sign + "row 1 1;", 0);
                syntax("hot" + sign + "1;", 3);
            }
        });
    }

    private static void numbers() {
        edge(5, "N is the longest possible sequence of digits", () -> {
            CrackedColumn c = Checks.loaded("row9876 54;row 0000 00000;hot 007;"
                + "row 0000000000000000009999 000000000000000000099;");
            Checks.due("rows", c.row(0, 0) + " " + c.row(0, 1) + " " + c.row(1, 0) + " " + c.row(1, 1) + " " + c.row(2, 0)
                + " " + c.row(2, 1), "9876 54 0 0 9999 99");
            Checks.due("the hot limit", c.count(6), 7);
            syntax("row 11;", 6);
            syntax("row 1 1 1;", 8);
            value("row 10 100;", 7);
            // '/' and ':' stand next to the digits 0 and 9
            for (String sign : new String[] {"/", ":", "a", ".", ",", "+"}) {
                syntax("hot 1" + sign + ";", 5);
                syntax("hot " + sign + "1;", 4);
                syntax("row 1" + sign + "1;", 5);
            }
        });
    }

    private static void spaces() {
        edge(5, "Spaces (byte 32) may stand in front of every token and at the end of the text.", () -> {
            good("row1-1;", 1);
            good("row1 1;hot1;size2;", 1);
            good("   row   1   -   1   ;   hot   1   ;   ", 1);
            good(" ", 0);
            good(" ".repeat(900), 0);
            good("row1 1; ", 1);
            good("row1 1;" + " ".repeat(893), 1);
            syntax("row 1 1   ", 10);
            syntax("  ;", 2);
            syntax("row 1   hot;", 8);
            // other white space, and the bytes next to 32
            for (char sign : new char[] {9, 10, 13, 0, 31, 33, 160}) {
                syntax("row" + sign + "1 1;", 3);
                syntax(sign + "row 1 1;", 0);
                syntax("row 1 1;" + sign, 8);
            }
        });
    }

    private static void settings() {
        edge(5, "The numbers are: the key and the value of a row (with its sign)", () -> {
            CrackedColumn c = Checks.loaded("row 12 34;row 56 -78;row 9 - 9;row 1 -0;");
            String[] due = {"12 34", "56 -78", "9 -9", "1 0"};
            for (int row = 0; row < due.length; row++) {
                Checks.due("row " + row, c.row(row, 0) + " " + c.row(row, 1), due[row]);
            }
        });
        edge(5, "the four settings (the last one of a kind counts; one that is not told is as at first)", () -> {
            Checks.due("none is told", settings(Checks.loaded("row 1 1;")), "3 16 12 8");
            Checks.due("hot is told", settings(Checks.loaded("hot 1;")), "1 16 12 8");
            Checks.due("size is told", settings(Checks.loaded("size 2;")), "3 2 12 8");
            Checks.due("pieces is told", settings(Checks.loaded("pieces 2;")), "3 16 2 8");
            Checks.due("pending is told", settings(Checks.loaded("pending 1;")), "3 16 12 1");
            Checks.due("all are told twice", settings(Checks.loaded("hot 1;size 3;pieces 4;pending 5;row 1 1;pending 6;pieces 7;"
                + "size 8;hot 9;")), "9 8 7 6");
            Checks.due("one is told as at first", settings(Checks.loaded("hot 9;hot 3;")), "3 16 12 8");
            CrackedColumn c = Checks.loaded("hot 9;size 9;pieces 9;pending 9;");
            Checks.load(c, "");
            Checks.due("none is told behind another column", settings(c), "3 16 12 8");
            Checks.load(c, "hot 5;size 5;hot 0;");
            Checks.due("told ahead of an error", settings(c), "3 16 12 8");
        });
    }

    private static void firstError() {
        edge(5, "Reading stops at the first error.", () -> {
            value("row 10000 100;", 4);
            value("row 10000 x", 4);
            value("row 10000", 4);
            syntax("row x 100;", 4);
            syntax("row 1 x hot 0;", 6);
            value("hot 0;;", 4);
            syntax("hot;hot 0;", 3);
            tooMany(FULL + "row 10000 1;", 840);
            value("hot 0;" + FULL + "row1 1;", 4);
            syntax("x" + FULL + "row1 1;", 0);
        });
    }

    private static void codesAtOnePosition() {
        edge(5, "If several error codes fit the same position, the first one in this list is reported:", () -> {
            // a number out of every range that is not allowed there, and a 121st row that is not
            syntax("row 1 1 99999;", 8);
            syntax("hot 1 99;", 6);
            syntax("99999;", 0);
            syntax("row1 1;".repeat(119) + "row1 1 row1 1;", 840);
            syntax(FULL + "hot row1 1;", 844);
        });
    }

    private static void tokensNotAllowed() {
        edge(5, "SYNTAX_ERROR: a byte or token that is not allowed here (at its first byte)", () -> {
            syntax("rows 1 1;", 0);
            syntax("  word;", 2);
            syntax("row row 1;", 4);
            syntax("row 1 row;", 6);
            syntax("row 1 -row;", 7);
            syntax("row 1 1row;", 7);
            syntax("  123;", 2);
            syntax("-1;", 0);
            syntax("row 1 - ;", 8);
            syntax("row1 1;" + "hot 1;" + "size x;", 18);
        });
    }

    private static void bytesNotAllowed() {
        edge(5, "a byte or token that is not allowed here", () -> {
            String[] ahead = {"", "row", "row 1", "row 1 ", "row 1 -", "row 1 1", "row 1 1;", "hot", "hot 1"};
            for (int sign = 0; sign < 256; sign++) {
                boolean inTokens = " -;".indexOf(sign) >= 0 || sign >= '0' && sign <= '9' || sign >= 'a' && sign <= 'z';
                for (int i = 0; i < ahead.length && !inTokens; i++) {
                    CrackedColumn c = new CrackedColumn();
                    Checks.due("load with the byte " + sign, Checks.load(c, ahead[i] + (char) sign + " 1;"), -2);
                    Checks.due("position behind '" + ahead[i] + "'", c.errorPosition(), ahead[i].length());
                }
            }
        });
    }

    private static void endOfText() {
        edge(5, "an unexpected end of the text (at the length of the text)", () -> {
            String text = " row 10 - 20 ; pending 3 ;";
            int[] ends = {0, 1, 14, 15, 26};
            for (int length = 0; length <= text.length(); length++) {
                CrackedColumn c = new CrackedColumn();
                Checks.append(c, text);
                boolean good = java.util.Arrays.binarySearch(ends, length) >= 0;
                // a word that has begun is another word
                int from = length < 4 ? 1 : 15;
                boolean inWord = length > 1 && length < 4 || length > 15 && length < 22;
                int code = c.load(length);
                Checks.due("load of " + length + " bytes", code, good ? length < 14 ? 0 : 1 : -2);
                Checks.due("position with " + length + " bytes", c.errorPosition(), good ? -1 : inWord ? from : length);
            }
            syntax("row", 3);
            syntax("row  ", 5);
            syntax("row 1", 5);
            syntax("row 1 ", 6);
            syntax("row 1 -", 7);
            syntax("row 1 -1", 8);
            syntax("hot", 3);
            syntax("hot 1", 5);
            syntax("hot 1; size 5  ", 15);
        });
    }

    private static void valuesOutOfRange() {
        edge(5, "VALUE_ERROR: a number out of its range (at its first digit", () -> {
            good("row 0 0;row 9999 99;", 2);
            value("row 10000 0;", 4);
            value("row 0 100;", 6);
            value("row    00010000 0;", 7);
            String[] words = {"hot", "size", "pieces", "pending"};
            int[] least = {1, 2, 2, 1};
            int[] most = {20, 120, 40, 30};
            for (int i = 0; i < words.length; i++) {
                good(words[i] + " " + least[i] + ";" + words[i] + " " + most[i] + ";", 0);
                value(words[i] + " " + (least[i] - 1) + ";", words[i].length() + 1);
                value(words[i] + " " + (most[i] + 1) + ";", words[i].length() + 1);
                value(words[i] + "0", words[i].length());
            }
            // numbers that wrap around to one in the range
            for (String number : new String[] {"4294967297", "18446744073709551617", "340282366920938463463374607431768211457",
                "2147483648", "9223372036854775808", "1" + "0".repeat(64) + "1"}) {
                value("row " + number + " 1;", 4);
                value("row 1 " + number + ";", 6);
                value("row 1 -" + number + ";", 7);
                value("hot " + number + ";", 4);
            }
        });
        edge(5, "also of a value with a minus sign ahead", () -> {
            good("row 0 -99;row 0 -0;", 2);
            value("row 0 -100;", 7);
            value("row 0-100;", 6);
            value("row 0 -   100;", 10);
        });
    }

    private static void tooManyRows() {
        edge(5, "TOO_MANY: a 121st row (at its word).", () -> {
            good(FULL, 120);
            good(FULL + " hot 5 ; ", 120);
            good("hot 5;" + FULL, 120);
            tooMany(FULL + "row1 1;", 840);
            tooMany(FULL + "   row1 1;", 843);
            tooMany(FULL + "hot 5;row1 1;", 846);
            tooMany("hot 5;" + FULL + "row1 1;", 846);
            tooMany(FULL + "row", 840);
            tooMany(FULL + "row;", 840);
            tooMany(FULL + "row x", 840);
            syntax(FULL + "rows 1 1;", 840);
            syntax(FULL + "x", 840);
            value(FULL + "hot 0;row1 1;", 844);
            CrackedColumn c = Checks.loaded(FULL);
            Checks.due("load of other 120 rows into a full column", Checks.load(c, FULL), 120);
        });
    }

    // ---- 5. changes

    /** One call of each kind that is a change, on a busy column; those that do nothing are changes, too. */
    private static List<Consumer<CrackedColumn>> changes() {
        List<Consumer<CrackedColumn>> changes = new ArrayList<>();
        changes.add(c -> c.load(0));
        changes.add(c -> c.load(8));
        changes.add(c -> c.insert(25, 1));
        changes.add(c -> c.insert(33, 1));
        changes.add(c -> c.delete(0));
        changes.add(c -> c.delete(5));
        changes.add(c -> c.query(20, 60));
        changes.add(c -> c.query(22, 33));
        changes.add(c -> c.set(0, 2));
        changes.add(c -> c.set(1, 100));
        changes.add(c -> c.set(2, 2));
        changes.add(c -> c.set(3, 1));
        changes.add(c -> c.mergeAll());
        changes.add(c -> c.sort(0));
        changes.add(c -> c.sort(1));
        changes.add(c -> c.crack(20));
        changes.add(c -> c.crack(40));
        changes.add(c -> c.drop(1));
        changes.add(c -> c.drop(3));
        return changes;
    }

    /** Eight changes, two of them undone, an error at 5, a written text, and 20 bytes in the buffer. */
    private static CrackedColumn busy() {
        CrackedColumn c = Checks.loaded(FIVE + "hot 2;pieces 5;pending 3;");
        c.query(20, 60);
        c.query(20, 60);
        c.insert(25, -7);
        c.delete(3);
        c.crack(30);
        c.sort(0);
        c.drop(2);
        c.undo();
        c.undo();
        Checks.load(c, "row 1;");
        c.writePieces();
        Checks.append(c, "row 4 4;");
        return c;
    }

    private static void whatIsAChange() {
        edge(5, "The changes are all calls of load, insert, delete, query, set, mergeAll, sort, crack and drop that succeed", () -> {
            Checks.due("changes of the busy column", Edges.undoCount(busy()), 6);
            List<Consumer<CrackedColumn>> changes = changes();
            for (int i = 0; i < changes.size(); i++) {
                CrackedColumn c = busy();
                changes.get(i).accept(c);
                Checks.due("changes behind change " + i, Edges.undoCount(c), 7);
            }
        });
    }

    private static void whatIsNoChange() {
        edge(5, "(a text with an error is no change)", () -> {
            for (String text : new String[] {"row 1;", "hot 0;", FULL + "row1 1;", "x"}) {
                CrackedColumn c = busy();
                c.load(0);
                String before = Checks.state(c);
                Checks.load(c, text);
                Checks.due("state behind the error", Checks.state(c), before);
                Checks.due("changes behind the error", Edges.undoCount(c), 7);
            }
        });
        edge(5, "The changes are all calls of", () -> {
            CrackedColumn c = busy();
            c.append(0, 0, 0, 0, 0);
            c.errorPosition();
            c.pieceOf(3);
            c.nearest(20, 60);
            c.costOf(20, 60);
            c.asked(0, 4);
            c.scan(0, 10000, 0);
            c.mean(0, 10000);
            c.ordered(0);
            c.evenCrack();
            c.hottest();
            c.coldestPair();
            c.writePieces();
            c.writtenByte(0);
            Checks.view(c);
            Checks.due("changes behind calls that are none", Edges.undoCount(c), 6);
        });
    }

    private static void eightChanges() {
        edge(5, "The latest 8 changes can be undone, older ones cannot any more", () -> {
            for (int changes = 0; changes <= 20; changes++) {
                CrackedColumn c = new CrackedColumn();
                for (int i = 0; i < changes; i++) {
                    c.insert(i, i);
                }
                int most = Math.min(changes, 8);
                for (int left = most - 1; left >= 0; left--) {
                    Checks.due("undo", c.undo(), left);
                }
                Checks.due("rows behind all undos", c.count(0), changes - most);
                Checks.due("one undo more", Edges.thrown(c, x -> x.undo()), "IllegalStateException");
                Checks.due("rows behind the refused undo", c.count(0), changes - most);
            }
            // undone ones are followed by others
            CrackedColumn c = new CrackedColumn();
            for (int i = 0; i < 9; i++) {
                c.insert(i, i);
            }
            for (int i = 0; i < 3; i++) {
                c.undo();
            }
            for (int i = 0; i < 3; i++) {
                c.insert(100 + i, i);
            }
            Checks.due("changes", Edges.undoCount(c), 8);
            Checks.due("rows behind all undos", c.count(0) + " " + c.row(0, 0), "1 0");
        });
    }

    private static void undoBringsBack() {
        edge(5, "undoing a change brings back everything as it was before it", () -> {
            List<Consumer<CrackedColumn>> changes = changes();
            for (int i = 0; i < changes.size(); i++) {
                Consumer<CrackedColumn> change = changes.get(i);
                Supplier<CrackedColumn> undone = () -> {
                    CrackedColumn c = busy();
                    change.accept(c);
                    c.undo();
                    return c;
                };
                Edges.sameState("the undo of change " + i, undone, TextEdgesTest::busy);
                Edges.sameChanges("the undo of change " + i, undone, TextEdgesTest::busy);
                if (i > 1) {
                    // load alone empties the buffer and forgets the position of the error
                    Edges.alike("the undo of change " + i, undone, TextEdgesTest::busy);
                }
            }
        });
        edge(5, "(the latest answer, too)", () -> {
            CrackedColumn c = Checks.loaded(FIVE);
            c.query(20, 60);
            String first = Checks.answers(c);
            c.query(10, 20);
            c.load(0);
            Checks.due("answer behind load", Checks.answers(c), "none");
            c.undo();
            Checks.due("least key of the answer behind an undo of load", c.answer(2), 10);
            c.undo();
            Checks.due("answer behind an undo of a query", Checks.answers(c), first);
            Checks.due("kept queries", c.count(11), 1);
            c.undo();
            Checks.due("answer behind an undo of the first query", Checks.answers(c), "none");
            Checks.due("kept queries", c.count(11), 0);
        });
        edge(5, "brings back everything", () -> {
            // what a query moves out of the 20 kept ones
            CrackedColumn c = new CrackedColumn();
            for (int low = 0; low < 21; low++) {
                c.query(low, low + 1);
            }
            c.undo();
            Checks.due("kept queries", c.count(11) + " " + c.asked(0, 0) + " " + c.asked(19, 0), "20 19 0");
        });
    }

    private static void undoLeaves() {
        edge(5, "but not the text buffer", () -> {
            CrackedColumn c = Checks.loaded(FIVE);
            c.insert(1, 1);
            Checks.append(c, "row 4 4;row 5 5;row 6 6;");
            c.undo();
            Checks.due("length of the buffer", Edges.bufferLength(c), 40);
            Checks.due("load of the buffer", c.load(24), 3);
            c.undo();
            Checks.due("length of the buffer behind an undo of load", Edges.bufferLength(c), 0);
        });
        edge(5, "the position of the error", () -> {
            CrackedColumn c = new CrackedColumn();
            c.insert(1, 1);
            Checks.load(c, "row 1;");
            c.undo();
            Checks.due("position behind an undo", c.errorPosition(), 5);
            Checks.load(c, "row 1 1;");
            c.undo();
            Checks.due("position behind an undo of load", c.errorPosition(), -1);
        });
        edge(5, "the written text", () -> {
            CrackedColumn c = Checks.loaded(FIVE);
            c.crack(20);
            c.writePieces();
            c.undo();
            Checks.due("written behind an undo", Checks.written(c), "0:1u0 20:4u0");
        });
    }

    // ---- 6. exceptions

    private static void exceptionsChangeNothing() {
        edge(6, "A method that throws an exception changes nothing.", () -> {
            Class<?> argument = IllegalArgumentException.class;
            Class<?> index = IndexOutOfBoundsException.class;
            Edges.refused(TextEdgesTest::busy, "load(21)", argument, c -> c.load(21));
            Edges.refused(TextEdgesTest::busy, "count(12)", argument, c -> c.count(12));
            Edges.refused(TextEdgesTest::busy, "row(6, 0)", index, c -> c.row(6, 0));
            Edges.refused(TextEdgesTest::busy, "entry(5)", index, c -> c.entry(5));
            Edges.refused(TextEdgesTest::busy, "piece(4, 0)", index, c -> c.piece(4, 0));
            Edges.refused(TextEdgesTest::busy, "pieceOf(10000)", argument, c -> c.pieceOf(10000));
            Edges.refused(TextEdgesTest::busy, "pending(2)", index, c -> c.pending(2));
            Edges.refused(TextEdgesTest::busy, "query(20, 20)", argument, c -> c.query(20, 20));
            Edges.refused(TextEdgesTest::busy, "answer(9)", argument, c -> c.answer(9));
            Edges.refused(TextEdgesTest::busy, "asked(2, 0)", index, c -> c.asked(2, 0));
            Edges.refused(TextEdgesTest::busy, "nearest(20, 20)", argument, c -> c.nearest(20, 20));
            Edges.refused(TextEdgesTest::busy, "costOf(20, 20)", argument, c -> c.costOf(20, 20));
            Edges.refused(TextEdgesTest::busy, "scan(20, 20, 0)", argument, c -> c.scan(20, 20, 0));
            Edges.refused(TextEdgesTest::busy, "mean(80, 90)", NoSuchElementException.class, c -> c.mean(80, 90));
            Edges.refused(TextEdgesTest::busy, "ordered(5)", index, c -> c.ordered(5));
            Edges.refused(TextEdgesTest::busy, "insert(10000, 1)", argument, c -> c.insert(10000, 1));
            Edges.refused(TextEdgesTest::busy, "delete(6)", index, c -> c.delete(6));
            Edges.refused(TextEdgesTest::busy, "delete(3)", IllegalStateException.class, c -> c.delete(3));
            Edges.refused(TextEdgesTest::busy, "set(3, 31)", argument, c -> c.set(3, 31));
            Edges.refused(TextEdgesTest::busy, "sort(4)", index, c -> c.sort(4));
            Edges.refused(TextEdgesTest::busy, "crack(10001)", argument, c -> c.crack(10001));
            Edges.refused(TextEdgesTest::busy, "drop(4)", index, c -> c.drop(4));
            Edges.refused(TextEdgesTest::busy, "drop(0)", IllegalStateException.class, c -> c.drop(0));
            Edges.refused(TextEdgesTest::busy, "writtenByte(99)", index, c -> c.writtenByte(99));
        });
    }

    private static void firstException() {
        edge(6, "If several exceptions apply, the one named first is thrown.", () -> {
            Class<?> argument = IllegalArgumentException.class;
            Class<?> index = IndexOutOfBoundsException.class;
            Edges.refused(CrackedColumn::new, "row(0, 4)", index, c -> c.row(0, 4));
            Edges.refused(CrackedColumn::new, "piece(1, 6)", index, c -> c.piece(1, 6));
            Edges.refused(CrackedColumn::new, "asked(0, 5)", index, c -> c.asked(0, 5));
            Edges.refused(CrackedColumn::new, "answer(9)", argument, c -> c.answer(9));
            Edges.refused(CrackedColumn::new, "mean(5, 5)", argument, c -> c.mean(5, 5));
            Edges.refused(CrackedColumn::new, "delete(0)", index, c -> c.delete(0));
            Edges.refused(CrackedColumn::new, "drop(-1)", index, c -> c.drop(-1));
            Edges.refused(() -> Checks.loaded(FULL), "insert(10000, 1)", argument, c -> c.insert(10000, 1));
            Edges.refused(() -> Checks.loaded(FULL), "insert(1, 100)", argument, c -> c.insert(1, 100));
            Edges.refused(TextEdgesTest::sixtyPieces, "crack(10001)", argument, c -> c.crack(10001));
            Edges.refused(TextEdgesTest::sixtyPieces, "crack(-1)", argument, c -> c.crack(-1));
        });
    }

    private static CrackedColumn sixtyPieces() {
        CrackedColumn c = Checks.loaded(FIVE);
        for (int at = 1; at < 60; at++) {
            c.crack(at);
        }
        return c;
    }

    private static void indices() {
        edge(6, "An IndexOutOfBoundsException is thrown if a row, place, piece or other index does not exist.", () -> {
            Class<?> due = IndexOutOfBoundsException.class;
            for (int index : new int[] {-1, Integer.MIN_VALUE, Integer.MAX_VALUE, 120, 1000}) {
                Edges.refused(TextEdgesTest::busy, "row(" + index + ")", due, c -> c.row(index, 0));
                Edges.refused(TextEdgesTest::busy, "entry(" + index + ")", due, c -> c.entry(index));
                Edges.refused(TextEdgesTest::busy, "piece(" + index + ")", due, c -> c.piece(index, 0));
                Edges.refused(TextEdgesTest::busy, "pending(" + index + ")", due, c -> c.pending(index));
                Edges.refused(TextEdgesTest::busy, "asked(" + index + ")", due, c -> c.asked(index, 0));
                Edges.refused(TextEdgesTest::busy, "ordered(" + index + ")", due, c -> c.ordered(index));
                Edges.refused(TextEdgesTest::busy, "delete(" + index + ")", due, c -> c.delete(index));
                Edges.refused(TextEdgesTest::busy, "sort(" + index + ")", due, c -> c.sort(index));
                Edges.refused(TextEdgesTest::busy, "drop(" + index + ")", due, c -> c.drop(index));
                Edges.refused(TextEdgesTest::busy, "writtenByte(" + index + ")", due, c -> c.writtenByte(index));
            }
        });
    }

    private static void constants() {
        edge(6, "`NONE = -1`: The value -1: there is none.", () -> {
            Checks.due("NONE", CrackedColumn.NONE, -1);
            CrackedColumn c = Checks.loaded("");
            c.insert(1, 1);
            c.query(2, 3);
            Checks.due("place of a pending row", c.row(0, 3), -1);
            Checks.due("least key of no rows", c.answer(2), -1);
            Checks.due("greatest key of no rows", c.scan(2, 3, 3), -1);
            Checks.due("nearest of no query", c.nearest(1, 2), -1);
            Checks.due("position of no error", c.errorPosition(), -1);
        });
        edge(6, "`SYNTAX_ERROR = -2`: Error code of load: the text does not follow the grammar.", () -> {
            Checks.due("SYNTAX_ERROR", CrackedColumn.SYNTAX_ERROR, -2);
            syntax("row", 3);
        });
        edge(6, "`VALUE_ERROR = -3`: Error code of load: a number that cannot be.", () -> {
            Checks.due("VALUE_ERROR", CrackedColumn.VALUE_ERROR, -3);
            value("hot 21", 4);
        });
        edge(6, "`TOO_MANY = -4`: Error code of load: there is too much of something.", () -> {
            Checks.due("TOO_MANY", CrackedColumn.TOO_MANY, -4);
            tooMany(FULL + "row", 840);
        });
    }
}
