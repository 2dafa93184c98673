import java.util.List;
import java.util.function.Consumer;

/** Promises 29 to 31: the written text and undo; and which calls are changes. */
public final class TextsAndUndoTest {
    // keys 50 10 30 70 20
    private static final String FIVE = "row 50 1;row 10 2;row 30 3;row 70 4;row 20 5;";

    public static void main(String[] args) {
        writePieces();
        writeManyPieces();
        writtenByte();
        undoBringsBack();
        undoLeavesTexts();
        undoEight();
        undoAndChangeAgain();
        whatIsAChange();
        whatIsNoChange();
        undoRefused();
        Checks.finish();
    }

    private static void writePieces() {
        CrackedColumn c = Checks.loaded(FIVE);
        Checks.due("writePieces", c.writePieces(), 5);
        Checks.due("written", Checks.written(c), "0:5u0");
        for (int i = 0; i < 12; i++) {
            c.query(20, 60);
        }
        c.crack(10000);
        Checks.due("written before", Checks.written(c), "0:5u0");
        Checks.due("writePieces", c.writePieces(), 30);
        Checks.due("written", Checks.written(c), "0:1u0 20:3s12 60:1u0 10000:0u0");
        c.drop(3);
        c.drop(2);
        c.drop(1);
        Checks.due("writePieces", c.writePieces(), 6);
        Checks.due("written in place of what was before", Checks.written(c), "0:5u12");
    }

    private static void writeManyPieces() {
        StringBuilder due = new StringBuilder("0:0u0 1:120u0");
        for (int at = 2; at < 60; at++) {
            due.append(' ').append(at * 169).append(":0u0");
        }
        // an object bears 512 calls, so the text is read in parts
        int part = 200;
        for (int from = 0; from < due.length(); from += part) {
            CrackedColumn c = manyPieces();
            Checks.due("writePieces", c.writePieces(), due.length());
            StringBuilder got = new StringBuilder();
            int to = Math.min(from + part, due.length());
            for (int i = from; i < to; i++) {
                got.append((char) c.writtenByte(i));
            }
            Checks.due("written from " + from, got.toString(), due.substring(from, to));
        }
        int end = due.length();
        Checks.due("writtenByte behind the text", Edges.thrown(manyPieces(), c -> {
            c.writePieces();
            c.writtenByte(end);
        }), "IndexOutOfBoundsException");
    }

    private static CrackedColumn manyPieces() {
        CrackedColumn c = Checks.loaded("row1 1;".repeat(120));
        c.crack(1);
        for (int at = 2; at < 60; at++) {
            c.crack(at * 169);
        }
        return c;
    }

    private static void writtenByte() {
        CrackedColumn c = Checks.loaded(FIVE);
        Checks.refused(c, "writtenByte(0) before a text", IndexOutOfBoundsException.class, () -> c.writtenByte(0));
        c.writePieces();
        int[] due = {'0', ':', '5', 'u', '0'};
        for (int i = 0; i < due.length; i++) {
            Checks.due("writtenByte(" + i + ")", c.writtenByte(i), due[i]);
        }
        for (int index : new int[] {5, -1, Integer.MIN_VALUE, Integer.MAX_VALUE}) {
            CrackedColumn five = Checks.loaded(FIVE);
            five.writePieces();
            Checks.refused(five, "writtenByte(" + index + ")", IndexOutOfBoundsException.class,
                () -> five.writtenByte(index));
        }
        c.crack(7);
        c.writePieces();
        c.undo();
        c.undo();
        c.writePieces();
        Checks.refused(c, "writtenByte(5) of a shorter text", IndexOutOfBoundsException.class, () -> c.writtenByte(5));
    }

    private static void undoBringsBack() {
        List<Consumer<CrackedColumn>> changes = List.of(c -> c.query(20, 60), c -> c.insert(25, 1), c -> c.delete(0),
            c -> c.set(3, 1), c -> c.query(20, 30), c -> c.sort(1), c -> c.crack(25), c -> c.mergeAll(),
            c -> c.drop(1), c -> c.set(0, 1), c -> c.query(20, 60), c -> Checks.load(c, "row 1 1;hot 2;"),
            c -> c.query(0, 5), c -> c.insert(3, 3), c -> c.delete(0), c -> c.crack(3));
        for (int left = 7; left >= 0; left--) {
            int count = 8 + left;
            Edges.sameState("undos up to " + left, () -> undone(changed(changes, 16), count - 8),
                () -> changed(changes, count));
        }
        CrackedColumn empty = undone(changed(changes, 16), 0);
        Checks.refused(empty, "undo of a ninth change", IllegalStateException.class, () -> empty.undo());
    }

    private static CrackedColumn changed(List<Consumer<CrackedColumn>> changes, int count) {
        CrackedColumn c = Checks.loaded(FIVE);
        for (int i = 0; i < count; i++) {
            changes.get(i).accept(c);
        }
        return c;
    }

    private static CrackedColumn undone(CrackedColumn c, int due) {
        for (int left = 7; left >= due; left--) {
            Checks.due("undo", c.undo(), left);
        }
        return c;
    }

    private static void undoLeavesTexts() {
        CrackedColumn c = Checks.loaded(FIVE);
        c.crack(20);
        c.writePieces();
        Checks.load(c, "row 1;");
        Checks.append(c, "row 1 1;");
        Checks.due("undo", c.undo(), 1);
        Checks.due("written", Checks.written(c), "0:1u0 20:4u0");
        Checks.due("position of the error", c.errorPosition(), 5);
        Checks.due("load of the buffer", c.load(20), 1);
        Checks.due("undo of the load", c.undo(), 1);
        Checks.due("position of the error", c.errorPosition(), -1);
        Checks.refused(c, "load(1) of the buffer that load emptied", IllegalArgumentException.class, () -> c.load(1));
    }

    private static void undoEight() {
        CrackedColumn c = new CrackedColumn();
        for (int row = 0; row < 30; row++) {
            c.insert(row, row);
            c.undo();
            c.insert(row, row);
        }
        for (int left = 7; left >= 0; left--) {
            Checks.due("undo", c.undo(), left);
            Checks.due("rows", c.count(0), 22 + left);
        }
        Checks.refused(c, "undo of a ninth change", IllegalStateException.class, () -> c.undo());
    }

    private static void undoAndChangeAgain() {
        CrackedColumn c = new CrackedColumn();
        for (int row = 0; row < 5; row++) {
            c.insert(row, row);
        }
        Checks.due("undo", c.undo(), 4);
        Checks.due("undo", c.undo(), 3);
        c.insert(77, 7);
        String state = Checks.state(c);
        c.query(0, 100);
        Checks.due("undo", c.undo(), 4);
        Checks.due("state", Checks.state(c), state);
        Checks.due("undo", c.undo(), 3);
        Checks.due("rows", c.count(0), 3);
        Checks.due("key of the last one", c.row(2, 0), 2);
    }

    private static void isChange(String call, Consumer<CrackedColumn> change) {
        CrackedColumn c = Checks.loaded(FIVE);
        c.query(20, 60);
        c.insert(30, 1);
        String state = Checks.state(c);
        change.accept(c);
        Checks.due("undo behind " + call, c.undo(), 3);
        Checks.due("state behind an undo of " + call, Checks.state(c), state);
    }

    private static void whatIsAChange() {
        isChange("load", c -> c.load(0));
        isChange("insert", c -> c.insert(2, 2));
        isChange("delete", c -> c.delete(1));
        isChange("query", c -> c.query(20, 60));
        isChange("set to what it was", c -> c.set(0, 3));
        isChange("mergeAll", c -> c.mergeAll());
        isChange("sort", c -> c.sort(0));
        isChange("crack at a bound", c -> c.crack(20));
        isChange("drop", c -> c.drop(1));
    }

    private static void whatIsNoChange() {
        CrackedColumn c = Checks.loaded(FIVE);
        c.query(20, 60);
        c.insert(30, 1);
        Checks.load(c, "row 1;");
        c.append(0, 0, 0, 0, 0);
        c.errorPosition();
        c.pieceOf(3);
        c.nearest(1, 2);
        c.costOf(1, 2);
        c.scan(1, 2, 0);
        c.mean(0, 10000);
        c.ordered(0);
        c.evenCrack();
        c.hottest();
        c.coldestPair();
        c.writePieces();
        c.writtenByte(0);
        Checks.view(c);
        Checks.due("undo", c.undo(), 2);
    }

    private static void undoRefused() {
        CrackedColumn c = new CrackedColumn();
        Checks.refused(c, "undo without a change", IllegalStateException.class, () -> c.undo());
        c.set(0, 7);
        Checks.due("undo", c.undo(), 0);
        Checks.due("the hot limit", c.count(6), 3);
        Checks.refused(c, "undo without a change left", IllegalStateException.class, () -> c.undo());
    }
}
