/** Promises 19 to 21, sentence by sentence: rows that come and go. */
public final class RowsEdgesTest {
    // keys 50 10 30 70 20
    private static final String FIVE = "row 50 1;row 10 2;row 30 3;row 70 4;row 20 5;";
    private static final String FULL = "row5 1;".repeat(120);
    private static final Class<?> ARGUMENT = IllegalArgumentException.class;
    private static final Class<?> INDEX = IndexOutOfBoundsException.class;
    private static final Class<?> STATE = IllegalStateException.class;

    public static void main(String[] args) {
        insert();
        insertRanges();
        insertRefused();
        delete();
        deleteReturns();
        deleteRefused();
        mergeAll();
        mergeAllOfNone();
        Edges.finish("Promise", 19, 21);
    }

    private static void edge(int promise, String words, Checks.Call test) {
        Edges.edge("Promise " + promise, words, test);
    }

    private static CrackedColumn used() {
        CrackedColumn c = Checks.loaded(FIVE + "pending 3;");
        c.crack(20);
        c.crack(60);
        c.insert(25, 1);
        c.delete(0);
        return c;
    }

    // ---- 19. insert

    private static void insert() {
        edge(19, "Inserts a row (section 3).", () -> {
            CrackedColumn c = new CrackedColumn();
            c.insert(7, -3);
            Checks.due("row 0", c.row(0, 0) + " " + c.row(0, 1) + " " + c.row(0, 2) + " " + c.row(0, 3), "7 -3 1 -1");
            Checks.due("pending", Checks.pendingRows(c), "0");
            Checks.due("pieces", Checks.pieces(c), "0:0u0");
            // a full list of pending rows: the oldest one is merged, not the new one
            c = used();
            c.insert(5, 1);
            Checks.due("a list that is just full", Checks.pendingRows(c) + ", cost " + c.count(10), "5 0 6, cost 9");
            c.insert(65, 1);
            Checks.due("a list with one too many", Checks.pendingRows(c) + ", cost " + c.count(10), "0 6 7, cost 11");
            Checks.due("entries", Checks.entries(c), "1 0 2 4 5 3");
        });
        edge(19, "Returns its number.", () -> {
            CrackedColumn c = new CrackedColumn();
            for (int row = 0; row < 120; row++) {
                Checks.due("insert", c.insert(row, 0), row);
            }
            // all but the first 112 are pending
            Checks.due("rows in the index", c.count(2), 112);
            Checks.due("behind 5 loaded rows", Checks.loaded(FIVE).insert(1, 1), 5);
            Checks.due("behind a delete", used().insert(1, 1), 6);
        });
    }

    private static void insertRanges() {
        edge(19, "`key`: 0 to 9999", () -> {
            for (int key : new int[] {0, 1, 9998, 9999}) {
                CrackedColumn c = used();
                Checks.due("insert", c.insert(key, 0), 6);
                Checks.due("key", c.row(6, 0), key);
            }
            for (int key : new int[] {-1, 10000, Integer.MIN_VALUE, Integer.MAX_VALUE, 65536}) {
                Edges.refused(RowsEdgesTest::used, "insert(" + key + ", 0)", ARGUMENT, x -> x.insert(key, 0));
            }
        });
        edge(19, "`value`: -99 to 99", () -> {
            for (int value : new int[] {-99, -1, 0, 1, 99}) {
                CrackedColumn c = used();
                c.insert(0, value);
                Checks.due("value", c.row(6, 1), value);
            }
            for (int value : new int[] {-100, 100, Integer.MIN_VALUE, Integer.MAX_VALUE, 256}) {
                Edges.refused(RowsEdgesTest::used, "insert(0, " + value + ")", ARGUMENT, x -> x.insert(0, value));
            }
        });
    }

    private static void insertRefused() {
        edge(19, "Throws `IllegalArgumentException` if key or value is out of range", () -> {
            Edges.refused(RowsEdgesTest::used, "insert(-1, 100)", ARGUMENT, x -> x.insert(-1, 100));
            Edges.refused(() -> Checks.loaded(FULL), "insert(10000, 0) into 120 rows", ARGUMENT, x -> x.insert(10000, 0));
            Edges.refused(() -> Checks.loaded(FULL), "insert(0, 100) into 120 rows", ARGUMENT, x -> x.insert(0, 100));
        });
        edge(19, "Throws `IllegalStateException` if there are 120 rows", () -> {
            Edges.refused(() -> Checks.loaded(FULL), "insert(0, 0) into 120 rows", STATE, x -> x.insert(0, 0));
            Edges.allowed(() -> Checks.loaded(FULL.substring(7)), "insert(0, 0) into 119 rows", x -> x.insert(0, 0));
            Edges.refused(() -> {
                CrackedColumn c = Checks.loaded(FULL);
                c.delete(7);
                c.mergeAll();
                return c;
            }, "insert(0, 0) into 120 rows of which one is deleted", STATE, x -> x.insert(0, 0));
            Edges.refused(() -> {
                CrackedColumn c = Checks.loaded(FULL.substring(7) + "pending 30;");
                c.insert(3, 3);
                c.delete(119);
                return c;
            }, "insert(0, 0) into 120 rows of which the last one was deleted while pending", STATE, x -> x.insert(0, 0));
            CrackedColumn c = Checks.loaded(FULL);
            Checks.load(c, FIVE);
            Checks.due("insert into what is loaded then", c.insert(0, 0), 5);
        });
    }

    // ---- 20. delete

    private static void delete() {
        edge(20, "Deletes a row (section 3). `row`: number of a row", () -> {
            CrackedColumn c = Checks.loaded(FIVE);
            for (int row : new int[] {0, 4}) {
                c.delete(row);
                Checks.due("state", c.row(row, 2), 2);
            }
            Checks.due("rows that live", c.count(1), 3);
            Checks.due("rows in the index", c.count(2), 5);
            CrackedColumn full = Checks.loaded(FULL + "pending 30;");
            full.delete(119);
            full.delete(0);
            full.mergeAll();
            Checks.due("rows in the index", full.count(2) + " " + full.entry(0) + " " + full.entry(117), "118 1 118");
            // a full list of pending rows: the oldest one is merged, not the new one
            c = used();
            c.delete(1);
            Checks.due("a list that is just full", Checks.pendingRows(c) + ", cost " + c.count(10), "5 0 1, cost 9");
            c.delete(3);
            Checks.due("a list with one too many", Checks.pendingRows(c) + ", cost " + c.count(10), "0 1 3, cost 11");
            Checks.due("states", c.row(5, 2) + " " + c.row(0, 2) + " " + c.row(3, 2), "0 2 2");
        });
    }

    private static void deleteReturns() {
        edge(20, "Returns the number of pending rows then.", () -> {
            CrackedColumn c = Checks.loaded(FIVE + "pending 3;");
            Checks.due("delete(0)", c.delete(0), 1);
            Checks.due("delete(1)", c.delete(1), 2);
            Checks.due("delete(2)", c.delete(2), 3);
            Checks.due("delete(3) with a full list", c.delete(3), 3);
            c = Checks.loaded("row 5 1;");
            c.insert(6, 1);
            Checks.due("delete of the only pending row", c.delete(1), 0);
            Checks.due("delete(0)", c.delete(0), 1);
            c = Checks.loaded("pending 1;");
            c.insert(5, 1);
            c.insert(6, 1);
            Checks.due("delete of the merged one", c.delete(0), 1);
            Checks.due("states: merged by it, deleted", c.row(1, 2) + " " + c.row(0, 2), "0 2");
        });
    }

    private static void deleteRefused() {
        edge(20, "Throws `IndexOutOfBoundsException` if the row does not exist", () -> {
            Edges.allowed(RowsEdgesTest::used, "delete(5)", x -> x.delete(5));
            for (int row : new int[] {6, -1, 119, 120, Integer.MIN_VALUE, Integer.MAX_VALUE}) {
                Edges.refused(RowsEdgesTest::used, "delete(" + row + ")", INDEX, x -> x.delete(row));
            }
            Edges.refused(CrackedColumn::new, "delete(0) without rows", INDEX, x -> x.delete(0));
            Edges.refused(() -> Checks.loaded(FULL), "delete(120) of 120 rows", INDEX, x -> x.delete(120));
        });
        edge(20, "Throws `IllegalStateException` if it does not live", () -> {
            Edges.refused(RowsEdgesTest::used, "delete of a row with the state 2", STATE, x -> x.delete(0));
            Edges.refused(() -> {
                CrackedColumn c = used();
                c.mergeAll();
                return c;
            }, "delete of a row with the state 3 that was merged", STATE, x -> x.delete(0));
            Edges.refused(() -> {
                CrackedColumn c = used();
                c.delete(5);
                return c;
            }, "delete of a row with the state 3 that was never merged", STATE, x -> x.delete(5));
            CrackedColumn c = used();
            c.undo();
            Checks.due("delete behind the undo of its delete", c.delete(0), 2);
        });
    }

    // ---- 21. mergeAll

    private static void mergeAll() {
        edge(21, "Merges all pending rows, the oldest one first.", () -> {
            CrackedColumn c = Checks.loaded("row 5 1;pending 30;");
            for (int key : new int[] {9, 3, 9999, 0, 4}) {
                c.insert(key, 1);
            }
            c.delete(0);
            c.mergeAll();
            Checks.due("entries", Checks.entries(c), "1 2 3 4 5");
            Checks.due("pending rows", c.count(3), 0);
            Checks.due("states", c.row(0, 2) + " " + c.row(1, 2) + " " + c.row(5, 2), "3 0 0");
            c = Checks.loaded("pending 30;");
            for (int i = 0; i < 30; i++) {
                c.insert(100 - i, 1);
            }
            Checks.due("mergeAll of 30", c.mergeAll(), 30);
            Checks.due("the first and the last place", c.entry(0) + " " + c.entry(29), "0 29");
        });
        edge(21, "Returns the cost.", () -> {
            CrackedColumn c = used();
            // a merge into piece 1 of 3, and one out of it
            Checks.due("mergeAll", c.mergeAll(), 4);
            Checks.due("total cost", c.count(10), 9 + 4);
            c.insert(0, 1);
            c.insert(9999, 1);
            c.delete(3);
            Checks.due("mergeAll", c.mergeAll(), 3 + 1 + 1);
            Checks.due("total cost", c.count(10), 13 + 5);
        });
    }

    private static void mergeAllOfNone() {
        edge(21, "Merges all pending rows", () -> {
            CrackedColumn c = Checks.loaded(FIVE);
            String before = Checks.state(c);
            Checks.due("mergeAll without pending rows", c.mergeAll(), 0);
            Checks.due("state behind it", Checks.state(c), before);
            Checks.due("changes behind it", Edges.undoCount(c), 2);
            Checks.due("mergeAll without rows", new CrackedColumn().mergeAll(), 0);
        });
    }
}
