/** Promises 19 to 21: rows that come and go. */
public final class RowsTest {
    // keys 50 10 30 70 20
    private static final String FIVE = "row 50 1;row 10 2;row 30 3;row 70 4;row 20 5;";

    public static void main(String[] args) {
        insert();
        insertMergesTheOldest();
        insertIntoSortedPieces();
        insertRefused();
        delete();
        deleteOfAnInsertedRow();
        deleteMergesTheOldest();
        deleteRefused();
        mergeAll();
        Checks.finish();
    }

    private static void insert() {
        CrackedColumn c = Checks.loaded(FIVE);
        Checks.due("insert", c.insert(25, -99), 5);
        Checks.due("insert", c.insert(0, 99), 6);
        Checks.due("insert", c.insert(9999, 0), 7);
        Checks.due("row 5", c.row(5, 0) + " " + c.row(5, 1) + " " + c.row(5, 2) + " " + c.row(5, 3), "25 -99 1 -1");
        Checks.due("pending", Checks.pendingRows(c), "5 6 7");
        Checks.due("entries", Checks.entries(c), "0 1 2 3 4");
        Checks.due("counts", c.count(0) + " " + c.count(1) + " " + c.count(2) + " " + c.count(10), "8 8 5 0");
        Checks.due("undo", c.undo(), 3);
        Checks.due("rows behind the undo", c.count(0), 7);
        Checks.due("the number of the undone row is told again", c.insert(9, 9), 7);
    }

    private static void insertMergesTheOldest() {
        CrackedColumn c = Checks.loaded(FIVE + "pending 2;");
        c.crack(20);
        c.crack(60);
        Checks.due("total cost", c.count(10), 9);
        c.insert(5, 1);
        c.insert(25, 1);
        Checks.due("total cost", c.count(10), 9);
        Checks.due("insert", c.insert(65, 1), 7);
        // row 5 comes into piece 0 of 3
        Checks.due("total cost", c.count(10), 12);
        Checks.due("pending", Checks.pendingRows(c), "6 7");
        Checks.due("entries", Checks.entries(c), "1 5 0 2 4 3");
        Checks.due("insert", c.insert(66, 1), 8);
        Checks.due("total cost", c.count(10), 14);
        Checks.due("entries", Checks.entries(c), "1 5 0 2 4 6 3");
        Checks.due("pieces", Checks.pieces(c), "0:2u0 20:4u0 60:1u0");
        c.insert(67, 1);
        Checks.due("total cost", c.count(10), 15);
        Checks.due("pieces", Checks.pieces(c), "0:2u0 20:4u0 60:2u0");
        Checks.due("states", c.row(7, 2) + " " + c.row(8, 2) + " " + c.row(9, 2), "0 1 1");
    }

    private static void insertIntoSortedPieces() {
        CrackedColumn c = Checks.loaded(FIVE + "pending 1;");
        c.crack(60);
        c.sort(0);
        int[] keys = {25, 10, 50, 5, 55, 20, 60, 0};
        for (int key : keys) {
            c.insert(key, 0);
        }
        // 5 8 | 10 10 | 20 20 | 25 | 30 | 50 50 | 55 and then 70 60; row 12 is still pending
        Checks.due("entries", Checks.entries(c), "8 1 6 4 10 5 2 0 7 9 3 11");
        Checks.due("pieces", Checks.pieces(c), "0:10s0 60:2u0");
    }

    private static void insertRefused() {
        int[][] bad = {{-1, 0}, {10000, 0}, {0, 100}, {0, -100}, {Integer.MIN_VALUE, 0}, {Integer.MAX_VALUE, 0},
            {0, Integer.MIN_VALUE}, {0, Integer.MAX_VALUE}};
        for (int[] row : bad) {
            Edges.refused(() -> Checks.loaded(FIVE), "insert(" + row[0] + ", " + row[1] + ")",
                IllegalArgumentException.class, c -> c.insert(row[0], row[1]));
        }
        CrackedColumn full = Checks.loaded("row1 1;".repeat(118) + "pending 30;");
        Checks.due("insert", full.insert(1, 1), 118);
        Checks.due("insert", full.insert(1, 1), 119);
        Edges.refused(RowsTest::full, "insert of a 121st row", IllegalStateException.class, c -> c.insert(1, 1));
        Edges.refused(RowsTest::fullButOneDeleted, "insert behind a delete", IllegalStateException.class,
            c -> c.insert(1, 1));
        Edges.refused(RowsTest::full, "insert(-1, 1) into 120 rows", IllegalArgumentException.class,
            c -> c.insert(-1, 1));
        Edges.refused(RowsTest::full, "insert(1, 100) into 120 rows", IllegalArgumentException.class,
            c -> c.insert(1, 100));
    }

    private static CrackedColumn full() {
        CrackedColumn c = Checks.loaded("row1 1;".repeat(118) + "pending 30;");
        c.insert(1, 1);
        c.insert(1, 1);
        return c;
    }

    private static CrackedColumn fullButOneDeleted() {
        CrackedColumn c = full();
        c.delete(119);
        return c;
    }

    private static void delete() {
        CrackedColumn c = Checks.loaded(FIVE);
        Checks.due("delete(2)", c.delete(2), 1);
        Checks.due("delete(0)", c.delete(0), 2);
        Checks.due("state", c.row(2, 2), 2);
        Checks.due("place", c.row(2, 3), 2);
        Checks.due("pending", Checks.pendingRows(c), "2 0");
        Checks.due("counts", c.count(0) + " " + c.count(1) + " " + c.count(2), "5 3 5");
        // the others keep their order
        c.mergeAll();
        Checks.due("entries", Checks.entries(c), "1 3 4");
        Checks.due("pieces", Checks.pieces(c), "0:3u0");
    }

    private static void deleteOfAnInsertedRow() {
        CrackedColumn c = Checks.loaded(FIVE);
        c.insert(1, 1);
        c.insert(2, 2);
        c.insert(3, 3);
        Checks.due("delete(6)", c.delete(6), 2);
        Checks.due("state", c.row(6, 2), 3);
        Checks.due("pending", Checks.pendingRows(c), "5 7");
        Checks.due("delete(5)", c.delete(5), 1);
        Checks.due("delete(7)", c.delete(7), 0);
        Checks.due("total cost", c.count(10), 0);
        Checks.due("counts", c.count(0) + " " + c.count(1) + " " + c.count(2), "8 5 5");
    }

    private static void deleteMergesTheOldest() {
        CrackedColumn c = Checks.loaded(FIVE + "pending 1;");
        c.crack(20);
        c.crack(60);
        c.sort(1);
        Checks.due("delete(2)", c.delete(2), 1);
        Checks.due("delete(1)", c.delete(1), 1);
        // row 2 leaves piece 1 of 3
        Checks.due("total cost", c.count(10), 11);
        Checks.due("states", c.row(2, 2) + " " + c.row(1, 2), "3 2");
        Checks.due("place of the row that left", c.row(2, 3), -1);
        Checks.due("entries", Checks.entries(c), "1 4 0 3");
        Checks.due("pieces", Checks.pieces(c), "0:1u0 20:2s0 60:1u0");
        Checks.due("delete(3)", c.delete(3), 1);
        Checks.due("total cost", c.count(10), 14);
        Checks.due("pieces", Checks.pieces(c), "0:0u0 20:2s0 60:1u0");
        Checks.due("first place of the last piece", c.piece(2, 1), 2);
    }

    private static void deleteRefused() {
        Edges.refused(RowsTest::twoDeleted, "delete of a deleted row", IllegalStateException.class,
            c -> c.delete(5));
        Edges.refused(RowsTest::twoDeleted, "delete of a row with a pending delete", IllegalStateException.class,
            c -> c.delete(0));
        for (int row : new int[] {6, -1, Integer.MIN_VALUE, Integer.MAX_VALUE}) {
            Edges.refused(RowsTest::twoDeleted, "delete(" + row + ")", IndexOutOfBoundsException.class,
                c -> c.delete(row));
        }
        CrackedColumn merged = twoDeleted();
        merged.mergeAll();
        Checks.refused(merged, "delete of a row that left", IllegalStateException.class, () -> merged.delete(0));
        Checks.due("undo behind a refused call", merged.undo(), 4);
    }

    private static CrackedColumn twoDeleted() {
        CrackedColumn c = Checks.loaded(FIVE);
        c.insert(1, 1);
        c.delete(5);
        c.delete(0);
        return c;
    }

    private static void mergeAll() {
        CrackedColumn c = Checks.loaded(FIVE);
        Checks.due("mergeAll without pending rows", c.mergeAll(), 0);
        c.crack(20);
        c.crack(60);
        c.insert(65, 1);
        c.delete(1);
        c.insert(25, 1);
        c.insert(15, 1);
        // in the pieces 2, 0, 1 and 0 of 3
        Checks.due("mergeAll", c.mergeAll(), 1 + 3 + 2 + 3);
        Checks.due("total cost", c.count(10), 9 + 9);
        Checks.due("entries", Checks.entries(c), "7 0 2 4 6 3 5");
        Checks.due("pending", c.count(3), 0);
        Checks.due("pieces", Checks.pieces(c), "0:1u0 20:4u0 60:2u0");
        Checks.due("states", c.row(1, 2) + " " + c.row(5, 2) + " " + c.row(6, 2), "3 0 0");
        Checks.due("undo", c.undo(), 7);
        Checks.due("pending behind the undo", Checks.pendingRows(c), "5 1 6 7");
        // rows that leave an index of 120 rows, and 120 rows that come in
        c = Checks.loaded("row1 1;".repeat(120));
        c.crack(1);
        c.delete(119);
        c.delete(0);
        Checks.due("mergeAll", c.mergeAll(), 2);
        Checks.due("size", c.piece(1, 2), 118);
        Checks.due("first place", c.entry(0), 1);
        Checks.due("last place", c.entry(117), 118);
        c = new CrackedColumn();
        c.set(3, 1);
        for (int row = 0; row < 120; row++) {
            c.insert(row % 7, 0);
        }
        Checks.due("mergeAll", c.mergeAll(), 1);
        Checks.due("size", c.piece(0, 2), 120);
        Checks.due("sort(0)", c.sort(0), 119);
        // the least and the greatest key
        c = new CrackedColumn();
        c.insert(0, 1);
        c.insert(9999, 1);
        Checks.due("mergeAll", c.mergeAll(), 2);
        Checks.due("entries", Checks.entries(c), "0 1");
        // an order of another kind
        c = Checks.loaded("row 5 1;");
        c.insert(9, 1);
        c.insert(3, 1);
        c.insert(6, 1);
        Checks.due("mergeAll", c.mergeAll(), 3);
        Checks.due("entries", Checks.entries(c), "0 1 2 3");
    }
}
