import java.util.function.Supplier;

/** Promises 1 to 10, sentence by sentence: a new object, the text buffer, load, and what can be asked of rows and pieces. */
public final class SetupEdgesTest {
    // keys 50 10 30 70 20
    private static final String FIVE = "row 50 1;row 10 2;row 30 3;row 70 4;row 20 5;";
    private static final int[] NO_WHATS = {-1, Integer.MIN_VALUE, Integer.MAX_VALUE, 100};
    private static final Class<?> ARGUMENT = IllegalArgumentException.class;
    private static final Class<?> INDEX = IndexOutOfBoundsException.class;

    public static void main(String[] args) {
        newObject();
        appendOrder();
        appendArguments();
        appendLimit();
        loadReads();
        loadReplaces();
        loadEmptiesTheBuffer();
        loadLength();
        errorPosition();
        counts();
        countWhat();
        rowWhat();
        rowRefused();
        entries();
        pieceNumbers();
        pieceWhat();
        pieceRefused();
        pieceOf();
        pending();
        Edges.finish("Promise", 1, 10);
    }

    private static void edge(int promise, String words, Checks.Call test) {
        Edges.edge("Promise " + promise, words, test);
    }

    // ---- 1. a new object

    private static void newObject() {
        edge(1, "Creates a column without rows", () -> {
            CrackedColumn c = new CrackedColumn();
            Checks.due("rows, living ones, indexed ones, pending ones", c.count(0) + " " + c.count(1) + " " + c.count(2) + " "
                + c.count(3), "0 0 0 0");
            Checks.due("scan", c.scan(0, 10000, 0), 0);
            Edges.refused(CrackedColumn::new, "row(0, 0)", INDEX, x -> x.row(0, 0));
            Edges.refused(CrackedColumn::new, "ordered(0)", INDEX, x -> x.ordered(0));
            Edges.refused(CrackedColumn::new, "mean(0, 10000)", java.util.NoSuchElementException.class, x -> x.mean(0, 10000));
        });
        edge(1, "with one empty piece", () -> {
            CrackedColumn c = new CrackedColumn();
            Checks.due("pieces and sorted ones", c.count(4) + " " + c.count(5), "1 0");
            Checks.due("pieces", Checks.pieces(c), "0:0u0");
            Edges.refused(CrackedColumn::new, "piece(1, 0)", INDEX, x -> x.piece(1, 0));
        });
        edge(1, "the settings that are told above", () -> {
            CrackedColumn c = new CrackedColumn();
            Checks.due("settings", c.count(6) + " " + c.count(7) + " " + c.count(8) + " " + c.count(9), "3 16 12 8");
        });
        edge(1, "no answer", () -> {
            Edges.refused(CrackedColumn::new, "answer(0)", java.util.NoSuchElementException.class, x -> x.answer(0));
            Edges.refused(CrackedColumn::new, "asked(0, 0)", INDEX, x -> x.asked(0, 0));
            Checks.due("total cost and kept queries", new CrackedColumn().count(10) + " " + new CrackedColumn().count(11), "0 0");
        });
        edge(1, "an empty text buffer", () -> {
            Edges.refused(CrackedColumn::new, "load(1)", ARGUMENT, x -> x.load(1));
            Checks.due("load(0)", new CrackedColumn().load(0), 0);
            Checks.due("the first append", new CrackedColumn().append(0, 0, 0, 0, 0), 20);
        });
        edge(1, "Creates a column", () -> {
            Edges.alike("another object's calls", () -> {
                CrackedColumn one = new CrackedColumn();
                CrackedColumn other = new CrackedColumn();
                one.insert(1, 1);
                Checks.append(one, "row 1 1;");
                one.query(0, 5);
                one.writePieces();
                return other;
            }, CrackedColumn::new);
        });
    }

    // ---- 2. append

    private static void appendOrder() {
        edge(2, "Appends 20 bytes to the text buffer: the four bytes of each argument in order, the most significant byte first.", () -> {
            CrackedColumn c = new CrackedColumn();
            // "row " "1234" " -56" ";hot" " 17;"
            c.append(0x726f7720, 0x31323334, 0x202d3536, 0x3b686f74, 0x2031373b);
            Checks.due("load(20)", c.load(20), 1);
            Checks.due("key, value, hot limit", c.row(0, 0) + " " + c.row(0, 1) + " " + c.count(6), "1234 -56 17");
            // the text goes on over two calls
            c.append(0x20202020, 0x20202020, 0x20202020, 0x20202020, 0x20726f77);
            c.append(0x2038203b, 0x20202020, 0x20202020, 0x20202020, 0x20202020);
            Checks.due("load(40)", c.load(40), -2);
            Checks.due("position in the second call's bytes", c.errorPosition(), 23);
        });
    }

    private static void appendArguments() {
        edge(2, "`a`: first four bytes", () -> appendArgument(0));
        edge(2, "`b`: next four bytes", () -> appendArgument(1));
        edge(2, "`c`: next four bytes", () -> appendArgument(2));
        edge(2, "`d`: next four bytes", () -> appendArgument(3));
        edge(2, "`e`: last four bytes", () -> appendArgument(4));
    }

    /** Each byte of the argument is found at its place in the text, the sign bit and the bytes 0 and 255, too. */
    private static void appendArgument(int argument) {
        for (int place = 0; place < 4; place++) {
            int shift = 24 - 8 * place;
            for (int value : new int[] {0, 255, 128, 127, 'A'}) {
                int[] words = new int[5];
                java.util.Arrays.fill(words, 0x20202020);
                words[argument] = words[argument] & ~(255 << shift) | value << shift;
                CrackedColumn c = new CrackedColumn();
                c.append(words[0], words[1], words[2], words[3], words[4]);
                Checks.due("load with the byte " + value, c.load(20), -2);
                Checks.due("its position", c.errorPosition(), 4 * argument + place);
            }
        }
    }

    /** An object with so many bytes, all of them spaces, in its buffer. */
    private static CrackedColumn withBuffer(int length) {
        CrackedColumn c = new CrackedColumn();
        Checks.append(c, " ".repeat(length));
        return c;
    }

    private static void appendLimit() {
        edge(2, "Returns the new length of the buffer.", () -> {
            CrackedColumn c = new CrackedColumn();
            for (int length = 20; length <= 900; length += 20) {
                Checks.due("append", c.append(0, 0, 0, 0, 0), length);
            }
            c.load(0);
            Checks.due("append behind load", c.append(0, 0, 0, 0, 0), 20);
        });
        edge(2, "Throws `IllegalStateException` if the length would exceed 900", () -> {
            Edges.refused(() -> withBuffer(900), "append to 900 bytes", IllegalStateException.class,
                x -> x.append(0x726f7720, 0x31203120, 0x3b202020, 0x20202020, 0x20202020));
            Checks.due("append to 880 bytes", withBuffer(880).append(0, 0, 0, 0, 0), 900);
            CrackedColumn c = withBuffer(900);
            Checks.due("append to the full buffer", Edges.thrown(c, x -> x.append(-1, -1, -1, -1, -1)), "IllegalStateException");
            Checks.due("load of the full buffer", c.load(900), 0);
            Checks.due("append to the buffer that load emptied", c.append(0, 0, 0, 0, 0), 20);
        });
    }

    // ---- 3. load

    private static void loadReads() {
        edge(3, "Reads the first bytes of the text buffer as a column.", () -> {
            for (int length : new int[] {0, 8, 16, 17, 24, 40}) {
                CrackedColumn c = new CrackedColumn();
                Checks.append(c, "row 1 1;row 2 2;row 3 3;row 4 4;row 5 5;");
                Checks.due("load(" + length + ")", c.load(length), length == 17 ? -2 : length / 8);
                Checks.due("rows", c.count(0), length == 17 ? 0 : length / 8);
            }
        });
        edge(3, "Returns the number of rows, or the error code.", () -> {
            CrackedColumn c = new CrackedColumn();
            String[] texts = {"", "hot 1;", "row 1 1;", "row1 1;".repeat(119), "row1 1;".repeat(120), "row", "hot 0",
                "row1 1;".repeat(121)};
            int[] due = {0, 0, 1, 119, 120, -2, -3, -4};
            for (int i = 0; i < texts.length; i++) {
                Checks.due("load of text " + i, Checks.load(c, texts[i]), due[i]);
            }
        });
    }

    private static CrackedColumn used() {
        CrackedColumn c = Checks.loaded(FIVE + "hot 2;size 20;pieces 7;pending 3;");
        c.query(20, 60);
        c.query(20, 60);
        c.insert(25, 1);
        c.delete(0);
        return c;
    }

    /** A column that was in use, with a hot and sorted piece 0, loads the text. */
    private static CrackedColumn usedAndLoaded(String text) {
        CrackedColumn c = used();
        c.query(0, 5);
        c.sort(0);
        c.costOf(0, 5);
        Checks.load(c, text);
        return c;
    }

    private static CrackedColumn newAndLoaded(String text) {
        CrackedColumn c = new CrackedColumn();
        Checks.load(c, text);
        return c;
    }

    private static void loadReplaces() {
        edge(3, "If the text has no error, it replaces the present one, with the total cost 0, without an answer and without"
            + " queries that are kept", () -> {
            for (String text : new String[] {"row 7 7;row 6 6;", "hot 9;", "", "row1 1;".repeat(120)}) {
                Edges.sameState("load of '" + text + "'", () -> usedAndLoaded(text), () -> newAndLoaded(text));
                CrackedColumn c = usedAndLoaded(text);
                Checks.due("total cost, kept queries", c.count(10) + " " + c.count(11), "0 0");
                Checks.due("answer", Edges.thrown(c, x -> x.answer(0)), "NoSuchElementException");
                Checks.due("kept query", Edges.thrown(c, x -> x.asked(0, 0)), "IndexOutOfBoundsException");
                Checks.due("nearest", c.nearest(0, 10000), -1);
            }
        });
        edge(3, "in case of an error the present one stays", () -> {
            for (String text : new String[] {"row 7 7;row", "row 7 7;hot 0;", "row1 1;".repeat(121), "x"}) {
                Supplier<CrackedColumn> failed = () -> {
                    CrackedColumn c = used();
                    Checks.load(c, text);
                    return c;
                };
                Edges.sameState("load of '" + text + "'", failed, SetupEdgesTest::used);
                Edges.sameChanges("load of '" + text + "'", failed, SetupEdgesTest::used);
            }
        });
    }

    private static void loadEmptiesTheBuffer() {
        edge(3, "The buffer is empty afterwards in both cases.", () -> {
            for (String text : new String[] {"row 7 7;row 6 6;row 5 5;", "row 7 7;row 6 6;row 5;", "xxxxxxxxxxxxxxxxxxxxxxxxx"}) {
                for (int length : new int[] {0, 8, 24}) {
                    CrackedColumn c = new CrackedColumn();
                    Checks.append(c, text);
                    c.load(length);
                    Checks.due("load(1)", Edges.thrown(c, x -> x.load(1)), "IllegalArgumentException");
                    Checks.due("append", c.append(0x20202020, 0x20202020, 0x20202020, 0x20202020, 0x20202020), 20);
                    Checks.due("load of what was appended then", c.load(20), 0);
                }
            }
        });
    }

    private static void loadLength() {
        edge(3, "`length`: number of bytes, 0 to the length of the buffer", () -> {
            for (int length : new int[] {0, 20, 880, 900}) {
                Edges.allowed(() -> withBuffer(length), "load(0)", x -> x.load(0));
                Edges.allowed(() -> withBuffer(length), "load(" + length + ")", x -> x.load(length));
                Edges.refused(() -> withBuffer(length), "load(" + (length + 1) + ")", ARGUMENT, x -> x.load(length + 1));
            }
        });
        edge(3, "Throws `IllegalArgumentException` if length is out of range", () -> {
            for (int length : new int[] {-1, 21, 900, 901, Integer.MIN_VALUE, Integer.MAX_VALUE}) {
                Edges.refused(() -> withBuffer(20), "load(" + length + ")", ARGUMENT, x -> x.load(length));
            }
            Edges.refused(CrackedColumn::new, "load(-1)", ARGUMENT, x -> x.load(-1));
        });
    }

    // ---- 4. errorPosition

    private static void errorPosition() {
        edge(4, "Returns the position of the error that the latest call of load found.", () -> {
            CrackedColumn c = new CrackedColumn();
            String[] texts = {"x", " x", "row 1;", "hot 21;", "row", "row1 1;".repeat(121), " ".repeat(899) + "x"};
            int[] due = {0, 1, 5, 4, 3, 840, 899};
            for (int i = 0; i < texts.length; i++) {
                Checks.load(c, texts[i]);
                Checks.due("position", c.errorPosition(), due[i]);
                Edges.thrown(c, x -> x.load(1));
                Checks.due("position behind a refused load", c.errorPosition(), due[i]);
            }
            Checks.append(c, "hot 9;");
            c.query(0, 1);
            c.undo();
            Checks.due("position behind other calls", c.errorPosition(), 899);
        });
        edge(4, "Returns the position; NONE if it found no error", () -> {
            CrackedColumn c = new CrackedColumn();
            for (String text : new String[] {"", "row 1 1;", " "}) {
                Checks.load(c, "x");
                Checks.load(c, text);
                Checks.due("position", c.errorPosition(), -1);
            }
        });
        edge(4, "or if there was no call", () -> {
            Checks.due("position of a new object", new CrackedColumn().errorPosition(), -1);
            CrackedColumn c = new CrackedColumn();
            c.append(0, 0, 0, 0, 0);
            Edges.thrown(c, x -> x.load(21));
            Checks.due("position behind a refused load", c.errorPosition(), -1);
        });
    }

    // ---- 5. count

    private static void counts() {
        edge(5, "Returns a number of the column. `what`: 0: rows (all that were ever there); 1: rows that live; 2: rows in the"
            + " index; 3: pending rows", () -> {
            CrackedColumn c = Checks.loaded("row 1 1;row 2 1;row 3 1;");
            Checks.due("at first", numbers(c, 0, 3), "3 3 3 0");
            c.insert(4, 1);
            c.insert(5, 1);
            Checks.due("behind inserts", numbers(c, 0, 3), "5 5 3 2");
            c.delete(0);
            Checks.due("behind a delete of an indexed row", numbers(c, 0, 3), "5 4 3 3");
            c.delete(3);
            Checks.due("behind a delete of a pending row", numbers(c, 0, 3), "5 3 3 2");
            c.mergeAll();
            Checks.due("behind mergeAll", numbers(c, 0, 3), "5 3 3 0");
            Checks.due("of 120 rows", numbers(Checks.loaded("row1 1;".repeat(120)), 0, 3), "120 120 120 0");
        });
        edge(5, "4: pieces; 5: sorted pieces", () -> {
            CrackedColumn c = Checks.loaded(FIVE);
            Checks.due("at first", numbers(c, 4, 5), "1 0");
            c.sort(0);
            Checks.due("behind sort", numbers(c, 4, 5), "1 1");
            for (int at = 1; at < 60; at++) {
                c.crack(at);
            }
            Checks.due("behind 59 cracks", numbers(c, 4, 5), "60 60");
            c.drop(1);
            Checks.due("behind a drop", numbers(c, 4, 5), "59 59");
        });
    }

    private static String numbers(CrackedColumn c, int from, int to) {
        StringBuilder text = new StringBuilder();
        for (int what = from; what <= to; what++) {
            text.append(what > from ? " " : "").append(c.count(what));
        }
        return text.toString();
    }

    private static void countWhat() {
        edge(5, "6: the hot limit; 7: the sort size; 8: the most pieces; 9: the most pending rows", () -> {
            Checks.due("settings", numbers(Checks.loaded("hot 4;size 5;pieces 6;pending 7;"), 6, 9), "4 5 6 7");
        });
        edge(5, "10: the total cost; 11: queries that are kept", () -> {
            CrackedColumn c = Checks.loaded(FIVE);
            Checks.due("at first", numbers(c, 10, 11), "0 0");
            c.crack(20);
            Checks.due("behind crack", numbers(c, 10, 11), "5 0");
            for (int i = 1; i <= 25; i++) {
                c.query(0, 20);
                Checks.due("behind queries", numbers(c, 10, 11), (5 + i) + " " + Math.min(i, 20));
            }
        });
        edge(5, "Returns the requested number. Throws `IllegalArgumentException` for any other what", () -> {
            Edges.allowed(CrackedColumn::new, "count(0)", x -> x.count(0));
            Edges.allowed(CrackedColumn::new, "count(11)", x -> x.count(11));
            Edges.refused(SetupEdgesTest::used, "count(12)", ARGUMENT, x -> x.count(12));
            for (int what : NO_WHATS) {
                Edges.refused(SetupEdgesTest::used, "count(" + what + ")", ARGUMENT, x -> x.count(what));
            }
        });
    }

    // ---- 6. row

    private static void rowWhat() {
        edge(6, "Returns a number of a row. `row`: number of a row `what`: 0: its key; 1: its value; 2: its state; 3: its place in"
            + " the index", () -> {
            CrackedColumn c = Checks.loaded("row 9999 -99;row 0 99;row 5 0;");
            c.crack(5);
            c.delete(2);
            String[] due = {"9999 -99 0 1", "0 99 0 0", "5 0 2 2"};
            for (int row = 0; row < due.length; row++) {
                String got = c.row(row, 0) + " " + c.row(row, 1) + " " + c.row(row, 2) + " " + c.row(row, 3);
                Checks.due("row " + row, got, due[row]);
            }
        });
        edge(6, "(NONE if it is not in it)", () -> {
            CrackedColumn c = Checks.loaded("row 1 1;row 2 1;");
            c.insert(3, 1);
            c.insert(4, 1);
            c.delete(3);
            c.delete(0);
            Checks.due("places", places(c), "0 1 -1 -1");
            c.mergeAll();
            Checks.due("places behind mergeAll", places(c), "-1 0 1 -1");
        });
    }

    private static String places(CrackedColumn c) {
        return c.row(0, 3) + " " + c.row(1, 3) + " " + c.row(2, 3) + " " + c.row(3, 3);
    }

    private static void rowRefused() {
        edge(6, "Throws `IndexOutOfBoundsException` if the row does not exist", () -> {
            Edges.allowed(SetupEdgesTest::used, "row(5, 0)", x -> x.row(5, 0));
            for (int row : new int[] {6, -1, 119, 120, Integer.MIN_VALUE, Integer.MAX_VALUE}) {
                Edges.refused(SetupEdgesTest::used, "row(" + row + ", 0)", INDEX, x -> x.row(row, 0));
                Edges.refused(SetupEdgesTest::used, "row(" + row + ", 9)", INDEX, x -> x.row(row, 9));
            }
            Edges.refused(CrackedColumn::new, "row(0, 0) without rows", INDEX, x -> x.row(0, 0));
            Edges.allowed(() -> Checks.loaded("row1 1;".repeat(120)), "row(119, 3)", x -> x.row(119, 3));
            CrackedColumn c = new CrackedColumn();
            c.insert(1, 1);
            c.undo();
            Checks.due("row(0, 0) behind an undo", Edges.thrown(c, x -> x.row(0, 0)), "IndexOutOfBoundsException");
        });
        edge(6, "Returns the requested number. Throws `IndexOutOfBoundsException` if the row does not exist Throws"
            + " `IllegalArgumentException` for any other what", () -> {
            Edges.refused(SetupEdgesTest::used, "row(0, 4)", ARGUMENT, x -> x.row(0, 4));
            for (int what : NO_WHATS) {
                Edges.refused(SetupEdgesTest::used, "row(5, " + what + ")", ARGUMENT, x -> x.row(5, what));
            }
        });
    }

    // ---- 7. entry

    private static void entries() {
        edge(7, "Returns the row at a place of the index. `place`: 0 for the first one Returns the number of the row.", () -> {
            CrackedColumn c = Checks.loaded(FIVE);
            c.crack(30);
            int[] due = {1, 4, 0, 2, 3};
            for (int place = 0; place < due.length; place++) {
                Checks.due("entry(" + place + ")", c.entry(place), due[place]);
                Checks.due("its place", c.row(due[place], 3), place);
            }
            Checks.due("the last one of 120", Checks.loaded("row1 1;".repeat(120)).entry(119), 119);
        });
        edge(7, "Throws `IndexOutOfBoundsException` if the index has no such place", () -> {
            Edges.allowed(SetupEdgesTest::used, "entry(4)", x -> x.entry(4));
            // a row that is inserted has no place yet
            for (int place : new int[] {5, -1, 119, 120, Integer.MIN_VALUE, Integer.MAX_VALUE}) {
                Edges.refused(SetupEdgesTest::used, "entry(" + place + ")", INDEX, x -> x.entry(place));
            }
            Edges.refused(CrackedColumn::new, "entry(0) without rows", INDEX, x -> x.entry(0));
            CrackedColumn c = Checks.loaded("row 1 1;");
            c.delete(0);
            Checks.due("entry(0) with a pending delete", c.entry(0), 0);
            c.mergeAll();
            Checks.due("entry(0) behind mergeAll", Edges.thrown(c, x -> x.entry(0)), "IndexOutOfBoundsException");
        });
    }

    // ---- 8. piece

    private static String piece(CrackedColumn c, int piece) {
        StringBuilder text = new StringBuilder();
        for (int what = 0; what <= 5; what++) {
            text.append(what > 0 ? " " : "").append(c.piece(piece, what));
        }
        return text.toString();
    }

    private static void pieceNumbers() {
        edge(8, "Returns a number of a piece. `piece`: number of a piece `what`: 0: its bound; 1: its first place (for an empty"
            + " one, the place at which it would begin); 2: its size", () -> {
            CrackedColumn c = Checks.loaded("row 5 1;row 6 1;row 5 1;");
            for (int at : new int[] {4, 5, 6, 7, 10000}) {
                c.crack(at);
            }
            String[] due = {"0 0 0", "4 0 0", "5 0 2", "6 2 1", "7 3 0", "10000 3 0"};
            for (int piece = 0; piece < due.length; piece++) {
                Checks.due("piece " + piece, c.piece(piece, 0) + " " + c.piece(piece, 1) + " " + c.piece(piece, 2), due[piece]);
            }
        });
        edge(8, "3: its heat; 4: 1 if it is sorted, otherwise 0", () -> {
            CrackedColumn c = Checks.loaded("row 5 1;row 4 1;hot 2;");
            c.query(4, 6);
            Checks.due("heat, sorted", c.piece(1, 3) + " " + c.piece(1, 4), "1 0");
            c.query(4, 6);
            Checks.due("heat, sorted", c.piece(1, 3) + " " + c.piece(1, 4), "2 1");
            Checks.due("heat, sorted of the piece ahead", c.piece(0, 3) + " " + c.piece(0, 4), "0 0");
            c.sort(0);
            Checks.due("sorted without rows", c.piece(0, 4), 1);
        });
    }

    private static void pieceWhat() {
        edge(8, "5: how many of its rows have a greater key than the row behind them in the piece", () -> {
            String[] keys = {"", "5", "5 5", "4 5", "5 4", "5 4 3", "3 5 4 5 5 1", "1 2 3 4", "9 9 8 8 9 0"};
            int[] due = {0, 0, 0, 0, 1, 2, 2, 0, 2};
            for (int i = 0; i < keys.length; i++) {
                StringBuilder text = new StringBuilder();
                for (String key : keys[i].isEmpty() ? new String[0] : keys[i].split(" ")) {
                    text.append("row ").append(key).append(" 1;");
                }
                Checks.due("keys " + keys[i], Checks.loaded(text.toString()).piece(0, 5), due[i]);
            }
            // the row behind the last one stands in another piece
            CrackedColumn c = Checks.loaded("row 9 1;row 4 1;row 3 1;row 8 1;row 7 1;");
            c.crack(5);
            Checks.due("of both pieces", c.piece(0, 5) + " " + c.piece(1, 5), "1 2");
            c.drop(1);
            Checks.due("of the one piece", piece(c, 0), "0 0 5 0 0 3");
            c.sort(0);
            Checks.due("of the sorted piece", piece(c, 0), "0 0 5 0 1 0");
        });
    }

    private static void pieceRefused() {
        edge(8, "Throws `IndexOutOfBoundsException` if the piece does not exist", () -> {
            Edges.allowed(SetupEdgesTest::used, "piece(2, 0)", x -> x.piece(2, 0));
            for (int piece : new int[] {3, -1, 60, 62, Integer.MIN_VALUE, Integer.MAX_VALUE}) {
                Edges.refused(SetupEdgesTest::used, "piece(" + piece + ", 0)", INDEX, x -> x.piece(piece, 0));
                Edges.refused(SetupEdgesTest::used, "piece(" + piece + ", 9)", INDEX, x -> x.piece(piece, 9));
            }
            Edges.refused(CrackedColumn::new, "piece(1, 0)", INDEX, x -> x.piece(1, 0));
        });
        edge(8, "Returns the requested number. Throws `IndexOutOfBoundsException` if the piece does not exist Throws"
            + " `IllegalArgumentException` for any other what", () -> {
            Edges.refused(SetupEdgesTest::used, "piece(0, 6)", ARGUMENT, x -> x.piece(0, 6));
            for (int what : NO_WHATS) {
                Edges.refused(SetupEdgesTest::used, "piece(2, " + what + ")", ARGUMENT, x -> x.piece(2, what));
            }
        });
    }

    // ---- 9. pieceOf

    private static void pieceOf() {
        edge(9, "Returns the piece into which a key belongs.", () -> {
            CrackedColumn c = new CrackedColumn();
            c.crack(20);
            c.crack(21);
            c.crack(10000);
            int[] keys = {0, 19, 20, 21, 9999};
            int[] due = {0, 0, 1, 2, 2};
            for (int i = 0; i < keys.length; i++) {
                Checks.due("pieceOf(" + keys[i] + ")", c.pieceOf(keys[i]), due[i]);
            }
        });
        edge(9, "`key`: 0 to 9999 Returns the number of the piece. Throws `IllegalArgumentException` if key is out of range", () -> {
            Checks.due("pieceOf(0)", new CrackedColumn().pieceOf(0), 0);
            Checks.due("pieceOf(9999)", new CrackedColumn().pieceOf(9999), 0);
            for (int key : new int[] {-1, 10000, Integer.MIN_VALUE, Integer.MAX_VALUE}) {
                Edges.refused(SetupEdgesTest::used, "pieceOf(" + key + ")", ARGUMENT, x -> x.pieceOf(key));
            }
        });
    }

    // ---- 10. pending

    private static void pending() {
        edge(10, "Returns a pending row. `place`: 0 for the oldest one Returns the number of the row.", () -> {
            CrackedColumn c = Checks.loaded(FIVE + "pending 30;");
            c.delete(4);
            for (int i = 0; i < 29; i++) {
                c.insert(i, 1);
            }
            Checks.due("the oldest one", c.pending(0), 4);
            Checks.due("the second one", c.pending(1), 5);
            Checks.due("the last one of 30", c.pending(29), 33);
        });
        edge(10, "Throws `IndexOutOfBoundsException` if there are not so many", () -> {
            Edges.allowed(SetupEdgesTest::used, "pending(1)", x -> x.pending(1));
            for (int place : new int[] {2, -1, 30, 31, Integer.MIN_VALUE, Integer.MAX_VALUE}) {
                Edges.refused(SetupEdgesTest::used, "pending(" + place + ")", INDEX, x -> x.pending(place));
            }
            Edges.refused(CrackedColumn::new, "pending(0) without pending rows", INDEX, x -> x.pending(0));
            CrackedColumn c = used();
            c.mergeAll();
            Checks.due("pending(0) behind mergeAll", Edges.thrown(c, x -> x.pending(0)), "IndexOutOfBoundsException");
        });
    }
}
