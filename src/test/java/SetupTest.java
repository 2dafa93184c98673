/** Promises 1 to 10: a new object, the text buffer, load, and what can be asked of rows and pieces. */
public final class SetupTest {
    private static final String FIVE = "row 50 1;row 10 2;row 30 3;row 70 4;row 20 5;";

    public static void main(String[] args) {
        newObject();
        appendBytes();
        appendUpToTheLimit();
        loadRowsAndSettings();
        loadSpaces();
        loadReplaces();
        loadLengths();
        syntaxErrors();
        valueErrors();
        tooMany();
        errorPosition();
        counts();
        rows();
        entries();
        pieces();
        pieceOf();
        pending();
        Checks.finish();
    }

    private static void newObject() {
        CrackedColumn c = new CrackedColumn();
        int[] counts = {0, 0, 0, 0, 1, 0, 3, 16, 12, 8, 0, 0};
        for (int what = 0; what < counts.length; what++) {
            Checks.due("new: count(" + what + ")", c.count(what), counts[what]);
        }
        Checks.due("new: pieces", Checks.pieces(c), "0:0u0");
        Checks.due("new: errorPosition", c.errorPosition(), CrackedColumn.NONE);
        Checks.due("new: load(0) of the empty buffer", c.load(0), 0);
        CrackedColumn other = new CrackedColumn();
        Checks.refused(other, "new: answer(0)", java.util.NoSuchElementException.class, () -> other.answer(0));
        Checks.refused(other, "new: writtenByte(0)", IndexOutOfBoundsException.class, () -> other.writtenByte(0));
        Checks.refused(other, "new: load(1)", IllegalArgumentException.class, () -> other.load(1));
        Checks.refused(other, "new: undo", IllegalStateException.class, () -> other.undo());
    }

    private static void appendBytes() {
        CrackedColumn c = new CrackedColumn();
        // "row 123 -45;" and spaces; then "row 6 7;" in the second part
        Checks.due("append", c.append(0x726f7720, 0x31323320, 0x2d34353b, 0x20202020, 0x20202020), 20);
        Checks.due("append", c.append(0x20202020, 0x726f7720, 0x36203720, 0x20202020, 0x2020203b), 40);
        Checks.due("load(40)", c.load(40), 2);
        Checks.due("key of row 0", c.row(0, 0), 123);
        Checks.due("value of row 0", c.row(0, 1), -45);
        Checks.due("key of row 1", c.row(1, 0), 6);
        Checks.due("value of row 1", c.row(1, 1), 7);
        Checks.due("append to the buffer that load emptied", c.append(-1, -1, -1, -1, -1), 20);
        Checks.due("load of bytes 255", c.load(20), CrackedColumn.SYNTAX_ERROR);
    }

    private static void appendUpToTheLimit() {
        CrackedColumn c = new CrackedColumn();
        for (int length = 20; length <= 900; length += 20) {
            Checks.due("append", c.append(0x20202020, 0x20202020, 0x20202020, 0x20202020, 0x20202020), length);
        }
        Checks.refused(c, "append beyond 900", IllegalStateException.class, () -> c.append(0, 0, 0, 0, 0));
        Checks.due("load(900) of spaces", c.load(900), 0);
    }

    private static void loadRowsAndSettings() {
        CrackedColumn c = Checks.loaded("hot 1;row 9999 99;size 2;row 0 -99;pieces 2;pending 1;row 5 0;row 5 - 0;");
        Checks.due("settings", c.count(6) + " " + c.count(7) + " " + c.count(8) + " " + c.count(9), "1 2 2 1");
        Checks.due("rows", c.count(0), 4);
        Checks.due("row 0", c.row(0, 0) + " " + c.row(0, 1) + " " + c.row(0, 2), "9999 99 0");
        Checks.due("row 1", c.row(1, 0) + " " + c.row(1, 1), "0 -99");
        Checks.due("row 3", c.row(3, 0) + " " + c.row(3, 1), "5 0");
        Checks.due("entries", Checks.entries(c), "0 1 2 3");
        Checks.due("pieces", Checks.pieces(c), "0:4u0");
        c = Checks.loaded("hot 20;size 120;pieces 40;pending 30;");
        Checks.due("settings", c.count(6) + " " + c.count(7) + " " + c.count(8) + " " + c.count(9), "20 120 40 30");
        c = Checks.loaded("hot 5;hot 7;pieces 3;hot 6;");
        Checks.due("the last hot", c.count(6), 6);
        Checks.due("pieces", c.count(8), 3);
        Checks.due("size is as at first", c.count(7), 16);
        Checks.due("pending is as at first", c.count(9), 8);
    }

    private static void loadSpaces() {
        CrackedColumn c = Checks.loaded("  row   1   -   2  ;hot4;row5-6;row7 8;row 0009 00000000000000000000000000003 ;  ");
        Checks.due("rows", c.count(0), 4);
        Checks.due("row 0", c.row(0, 0) + " " + c.row(0, 1), "1 -2");
        Checks.due("row 1", c.row(1, 0) + " " + c.row(1, 1), "5 -6");
        Checks.due("row 2", c.row(2, 0) + " " + c.row(2, 1), "7 8");
        Checks.due("row 3", c.row(3, 0) + " " + c.row(3, 1), "9 3");
        Checks.due("hot", c.count(6), 4);
        Checks.due("a text without bytes", Checks.loaded("").count(0), 0);
        Checks.due("a text of spaces", Checks.loaded("   ").count(0), 0);
    }

    private static void loadReplaces() {
        CrackedColumn c = Checks.loaded(FIVE + "hot 9;");
        c.query(20, 60);
        c.insert(33, 1);
        String before = Checks.state(c);
        Checks.due("load with an error", Checks.load(c, "row 1 1;row 2;"), CrackedColumn.SYNTAX_ERROR);
        Checks.due("after an error", Checks.state(c), before);
        Checks.due("the text before the error's one is gone", Checks.load(c, "row 8 8;"), 1);
        Checks.due("counts", c.count(0) + " " + c.count(2) + " " + c.count(3) + " " + c.count(4) + " " + c.count(6)
            + " " + c.count(10) + " " + c.count(11), "1 1 0 1 3 0 0");
        Checks.due("answer", Checks.answers(c), "none");
        Checks.due("pieces", Checks.pieces(c), "0:1u0");
        Checks.due("undo of the load", c.undo(), 3);
        Checks.due("after the undo", Checks.state(c), before);
        // what was hot, sorted, pending and asked is not in the new one
        for (int i = 0; i < 12; i++) {
            c.query(0, 10000);
        }
        c.sort(0);
        c.insert(9999, 1);
        c.costOf(1, 2);
        Checks.load(c, "row 8 8;");
        Checks.due("pieces", Checks.pieces(c), "0:1u0");
        Checks.due("pending", c.count(3), 0);
        Checks.due("living", c.count(1), 1);
        Checks.due("scan", c.scan(0, 10000, 0), 1);
        Checks.due("ordered(0)", c.ordered(0), 0);
    }

    private static void loadLengths() {
        CrackedColumn c = new CrackedColumn();
        Checks.append(c, "row 1 1;row 2 2;hot");
        Checks.refused(c, "load(-1)", IllegalArgumentException.class, () -> c.load(-1));
        Checks.refused(c, "load(21)", IllegalArgumentException.class, () -> c.load(21));
        Checks.refused(c, "load(least int)", IllegalArgumentException.class, () -> c.load(Integer.MIN_VALUE));
        Checks.refused(c, "load(greatest int)", IllegalArgumentException.class, () -> c.load(Integer.MAX_VALUE));
        Checks.due("load of the first bytes", c.load(8), 1);
        Checks.refused(c, "load(1) of the buffer that load emptied", IllegalArgumentException.class, () -> c.load(1));
        Checks.append(c, "x");
        Checks.due("load of the first bytes", c.load(1), CrackedColumn.SYNTAX_ERROR);
        // a number, a sign and a word that end where the length does
        String[] texts = {"hot 12;", "hot 12;", "row 1 -1;", "hot 3; row 1 1;", "hot 3;  "};
        int[] lengths = {5, 6, 6, 9, 6};
        int[] positions = {5, 6, 6, 7, -1};
        for (int i = 0; i < texts.length; i++) {
            Checks.append(c, texts[i]);
            Checks.due("load of " + lengths[i] + " of " + texts[i], c.load(lengths[i]), positions[i] < 0 ? 0 : -2);
            Checks.due("position", c.errorPosition(), positions[i]);
        }
        Checks.refused(c, "load(1) of the buffer after an error", IllegalArgumentException.class, () -> c.load(1));
    }

    private static void fault(String text, int code, int position) {
        CrackedColumn c = new CrackedColumn();
        Checks.due("load of '" + text + "'", Checks.load(c, text), code);
        Checks.due("position in '" + text + "'", c.errorPosition(), position);
        Checks.due("pieces after '" + text + "'", Checks.pieces(c), "0:0u0");
        Checks.refused(c, "undo after '" + text + "'", IllegalStateException.class, () -> c.undo());
    }

    private static void syntaxErrors() {
        String[] texts = {";", "rows 1 1;", "ro 1 1;", "Row 1 1;", "rowA 1;", "row 1;", "row 1", "row 1 1", "row 1 1 ",
            "row", "row ", "row 1 ", "row 1 -", "row 1 -;", "row 1 --1;", "row -1 1;", "row 1 1;;", "row 1 1; ;",
            "row 1 1; x", "row 1 1 1;", "hot;", "hot 1 1;", "hot -1;", "hot", "hot 3", "5;", "-", "row 1,1;", "\t",
            "row\n1 1;", "row 1 1:", "hot size;", "row 1 1;hot 1;pending;", "piece 3;", "row 1 1;\u00e9", "ro w 1 1;",
            "sizes 2;", "row 1 +1;", "rowa 1 1;", "rowz 1 1;", "arow 1 1;", "row`1 1;", "row{1 1;"};
        int[] positions = {0, 0, 0, 0, 3, 5, 5, 7, 8, 3, 4, 6, 7, 7, 7, 4, 8, 9, 9, 8, 3, 6, 4, 3, 5, 0, 0, 5, 0,
            3, 7, 4, 21, 0, 8, 0, 0, 6, 0, 0, 0, 3, 3};
        for (int i = 0; i < texts.length; i++) {
            fault(texts[i], CrackedColumn.SYNTAX_ERROR, positions[i]);
        }
    }

    private static void valueErrors() {
        String[] texts = {"row 10000 1;", "row 1 100;", "row 1 -100;", "row 1 - 100;", "hot 0;", "hot 21;", "size 1;",
            "size 121;", "pieces 1;", "pieces 41;", "pending 0;", "pending 31;", "row 99999999999999999999 1;",
            "row 4294967296 1;", "row 1 4294967296;", "row 1 18446744073709551616;", "hot 0x", "row 1 1; hot 21",
            "row 0010000 1;"};
        int[] positions = {4, 6, 7, 8, 4, 4, 5, 5, 7, 7, 8, 8, 4, 4, 6, 6, 4, 13, 4};
        for (int i = 0; i < texts.length; i++) {
            fault(texts[i], CrackedColumn.VALUE_ERROR, positions[i]);
        }
    }

    private static void tooMany() {
        String full = "row1 1;".repeat(120);
        Checks.due("120 rows", Checks.loaded(full + "hot 4;").count(0), 120);
        fault(full + "row1 1;", CrackedColumn.TOO_MANY, 840);
        fault(full + "  row", CrackedColumn.TOO_MANY, 842);
        fault(full + "row 10000 1;", CrackedColumn.TOO_MANY, 840);
        fault(full + "hot 4; row;", CrackedColumn.TOO_MANY, 847);
        fault(full + "rows", CrackedColumn.SYNTAX_ERROR, 840);
        fault(full + "hot 0;", CrackedColumn.VALUE_ERROR, 844);
        fault("row1 1;".repeat(119) + "row1 1:row1 1;", CrackedColumn.SYNTAX_ERROR, 839);
    }

    private static void errorPosition() {
        CrackedColumn c = new CrackedColumn();
        Checks.due("position before a load", c.errorPosition(), -1);
        Checks.load(c, "hot 0;");
        Checks.due("position", c.errorPosition(), 4);
        Checks.refused(c, "load(5)", IllegalArgumentException.class, () -> c.load(5));
        c.query(1, 2);
        c.undo();
        Checks.due("position after an undo", c.errorPosition(), 4);
        Checks.load(c, "hot 1;");
        Checks.due("position after a load without an error", c.errorPosition(), -1);
    }

    private static void counts() {
        CrackedColumn c = Checks.loaded(FIVE + "hot 1;size 15;pieces 11;pending 7;");
        c.query(20, 60);
        c.insert(25, 1);
        c.insert(26, 1);
        c.delete(0);
        c.delete(5);
        // rows, living, in the index, pending, pieces, sorted ones
        int[] due = {7, 5, 5, 2, 3, 1, 1, 15, 11, 7, 18, 1};
        for (int what = 0; what < due.length; what++) {
            Checks.due("count(" + what + ")", c.count(what), due[what]);
        }
        c.sort(0);
        Checks.due("sorted pieces", c.count(5), 2);
        for (int what : new int[] {-1, 12, Integer.MIN_VALUE, Integer.MAX_VALUE}) {
            CrackedColumn five = Checks.loaded(FIVE);
            Checks.refused(five, "count(" + what + ")", IllegalArgumentException.class, () -> five.count(what));
        }
    }

    private static void rows() {
        CrackedColumn c = rowsOfAllKinds();
        String[] due = {"50 1 2 1", "10 2 0 0", "30 3 0 2", "70 4 0 4", "20 5 0 3", "25 -7 1 -1", "26 8 3 -1"};
        for (int row = 0; row < due.length; row++) {
            String got = c.row(row, 0) + " " + c.row(row, 1) + " " + c.row(row, 2) + " " + c.row(row, 3);
            Checks.due("row " + row, got, due[row]);
        }
        c.mergeAll();
        Checks.due("state of the row that was taken out", c.row(0, 2), 3);
        Checks.due("place of the row that was taken out", c.row(0, 3), -1);
        Checks.due("state of the row that came in", c.row(5, 2), 0);
        Checks.due("place of the row that came in", c.row(5, 3), 3);
        rowRefused(7, 0, IndexOutOfBoundsException.class);
        rowRefused(-1, 0, IndexOutOfBoundsException.class);
        rowRefused(7, 9, IndexOutOfBoundsException.class);
        rowRefused(0, 4, IllegalArgumentException.class);
        rowRefused(0, -1, IllegalArgumentException.class);
    }

    private static CrackedColumn rowsOfAllKinds() {
        CrackedColumn c = Checks.loaded(FIVE);
        c.query(20, 60);
        c.insert(25, -7);
        c.insert(26, 8);
        c.delete(0);
        c.delete(6);
        return c;
    }

    private static void rowRefused(int row, int what, Class<?> due) {
        CrackedColumn c = rowsOfAllKinds();
        Checks.refused(c, "row(" + row + ", " + what + ")", due, () -> c.row(row, what));
    }

    private static void entries() {
        CrackedColumn c = Checks.loaded(FIVE);
        Checks.due("entries", Checks.entries(c), "0 1 2 3 4");
        c.crack(30);
        Checks.due("entries behind a crack", Checks.entries(c), "1 4 0 2 3");
        Checks.refused(c, "entry(5)", IndexOutOfBoundsException.class, () -> c.entry(5));
        Checks.refused(c, "entry(-1)", IndexOutOfBoundsException.class, () -> c.entry(-1));
        c.insert(1, 1);
        Checks.refused(c, "entry(5)", IndexOutOfBoundsException.class, () -> c.entry(5));
    }

    private static void pieces() {
        CrackedColumn c = Checks.loaded(FIVE);
        c.query(40, 50);
        c.query(40, 60);
        c.sort(2);
        // 10 30 20 | (40) | 50 | 70
        String[] due = {"0 0 3 0 0 1", "40 3 0 2 0 0", "50 3 1 1 1 0", "60 4 1 0 0 0"};
        for (int piece = 0; piece < due.length; piece++) {
            StringBuilder got = new StringBuilder();
            for (int what = 0; what <= 5; what++) {
                got.append(what > 0 ? " " : "").append(c.piece(piece, what));
            }
            Checks.due("piece " + piece, got.toString(), due[piece]);
        }
        c.crack(10000);
        Checks.due("first place of the empty piece at the end", c.piece(4, 1), 5);
        Checks.due("its bound", c.piece(4, 0), 10000);
        c = Checks.loaded("row 5 1;row 5 1;row 4 1;row 3 1;row 9 1;row 8 1;");
        Checks.due("descents", c.piece(0, 5), 3);
        c.crack(5);
        // 4 3 | 5 5 9 8
        Checks.due("descents of the first part", c.piece(0, 5), 1);
        Checks.due("descents of the second part", c.piece(1, 5), 1);
        pieceRefused(2, 0, IndexOutOfBoundsException.class);
        pieceRefused(-1, 0, IndexOutOfBoundsException.class);
        pieceRefused(2, 6, IndexOutOfBoundsException.class);
        pieceRefused(1, 6, IllegalArgumentException.class);
        pieceRefused(1, -1, IllegalArgumentException.class);
    }

    private static void pieceRefused(int piece, int what, Class<?> due) {
        CrackedColumn c = Checks.loaded(FIVE);
        c.crack(25);
        Checks.refused(c, "piece(" + piece + ", " + what + ")", due, () -> c.piece(piece, what));
    }

    private static void pieceOf() {
        CrackedColumn c = Checks.loaded(FIVE);
        c.crack(20);
        c.crack(60);
        c.crack(10000);
        int[] keys = {0, 19, 20, 59, 60, 9999};
        int[] due = {0, 0, 1, 1, 2, 2};
        for (int i = 0; i < keys.length; i++) {
            Checks.due("pieceOf(" + keys[i] + ")", c.pieceOf(keys[i]), due[i]);
        }
        for (int key : new int[] {-1, 10000, Integer.MIN_VALUE, Integer.MAX_VALUE}) {
            CrackedColumn five = Checks.loaded(FIVE);
            Checks.refused(five, "pieceOf(" + key + ")", IllegalArgumentException.class, () -> five.pieceOf(key));
        }
    }

    private static void pending() {
        CrackedColumn c = Checks.loaded(FIVE);
        Checks.refused(c, "pending(0) without pending rows", IndexOutOfBoundsException.class, () -> c.pending(0));
        c.insert(25, 1);
        c.delete(3);
        c.insert(15, 1);
        Checks.due("pending", Checks.pendingRows(c), "5 3 6");
        Checks.refused(c, "pending(3)", IndexOutOfBoundsException.class, () -> c.pending(3));
        Checks.refused(c, "pending(-1)", IndexOutOfBoundsException.class, () -> c.pending(-1));
        c.query(60, 80);
        Checks.due("pending behind a query", Checks.pendingRows(c), "5 6");
        c.delete(5);
        Checks.due("pending behind a delete", Checks.pendingRows(c), "6");
    }
}
