import java.util.function.Supplier;

/** Promises 29 to 31, sentence by sentence: the written text and undo. */
public final class UndoEdgesTest {
    // keys 50 10 30 70 20
    private static final String FIVE = "row 50 1;row 10 2;row 30 3;row 70 4;row 20 5;";
    private static final int[] OUTSIDE = {-1, Integer.MIN_VALUE, Integer.MAX_VALUE, 1301, 1302, 5000};
    private static final Class<?> INDEX = IndexOutOfBoundsException.class;
    private static final Class<?> STATE = IllegalStateException.class;

    public static void main(String[] args) {
        writePieces();
        writeNumbers();
        writeReturns();
        writtenByte();
        writtenByteRefused();
        undo();
        undoReturns();
        undoRefused();
        lastCalls();
        Edges.finish("Promise", 29, 31);
    }

    private static void edge(int promise, String words, Checks.Call test) {
        Edges.edge("Promise " + promise, words, test);
    }

    // ---- 29. writePieces

    private static void writes(CrackedColumn c, String due) {
        Checks.due("writePieces", c.writePieces(), due.length());
        Checks.due("written", Checks.written(c), due);
    }

    private static void writePieces() {
        edge(29, "Writes the pieces, in place of what was written before", () -> {
            CrackedColumn c = Checks.loaded(FIVE);
            writes(c, "0:5u0");
            c.crack(20);
            Checks.due("written before", Checks.written(c), "0:5u0");
            writes(c, "0:1u0 20:4u0");
            c.drop(1);
            writes(c, "0:5u0");
            writes(c, "0:5u0");
            Checks.load(c, "");
            Checks.due("written before", Checks.written(c), "0:5u0");
            writes(c, "0:0u0");
        });
        edge(29, "the letter s if it is sorted and u if it is not", () -> {
            CrackedColumn c = Checks.loaded(FIVE);
            c.crack(20);
            c.sort(1);
            writes(c, "0:1u0 20:4s0");
            c.sort(0);
            writes(c, "0:1s0 20:4s0");
        });
        edge(29, "with a space between two pieces", () -> {
            writes(new CrackedColumn(), "0:0u0");
            StringBuilder due = new StringBuilder("0:0u0");
            for (int at = 1; at < 60; at++) {
                due.append(' ').append(at * 169).append(":0u0");
            }
            CrackedColumn c = sixtyPieces();
            Checks.due("writePieces of 60 pieces", c.writePieces(), due.length());
            for (int index = 0; index < due.length(); index++) {
                // an object answers as promised for 512 calls alone
                c = index % 400 == 0 ? written(sixtyPieces()) : c;
                Checks.due("writtenByte(" + index + ")", c.writtenByte(index), due.charAt(index));
            }
        });
    }

    private static CrackedColumn sixtyPieces() {
        CrackedColumn c = new CrackedColumn();
        for (int at = 1; at < 60; at++) {
            c.crack(at * 169);
        }
        return c;
    }

    private static void writeNumbers() {
        edge(29, "for each one its bound, a colon, its size", () -> {
            int[] bounds = {1, 9, 10, 11, 99, 100, 101, 999, 1000, 9999, 10000};
            for (int at : bounds) {
                CrackedColumn c = new CrackedColumn();
                c.crack(at);
                writes(c, "0:0u0 " + at + ":0u0");
            }
            for (int size : new int[] {0, 1, 9, 10, 11, 99, 100, 119, 120}) {
                writes(Checks.loaded("row1 1;".repeat(size)), "0:" + size + "u0");
            }
        });
        edge(29, "and its heat", () -> {
            CrackedColumn c = Checks.loaded("row 1 1;");
            c.crack(10000);
            for (int heat = 1; heat <= 110; heat++) {
                c.query(0, 10000);
                Checks.due("writePieces", c.writePieces(), ("0:1u" + heat + " 10000:0u0").length());
                if (heat < 12 || heat > 98 && heat < 102 || heat == 110) {
                    writes(c, "0:1u" + heat + " 10000:0u0");
                }
            }
        });
    }

    private static void writeReturns() {
        edge(29, "Returns the length of the text.", () -> {
            CrackedColumn c = Checks.loaded(FIVE);
            Checks.due("writePieces", c.writePieces(), 5);
            Edges.allowed(() -> written(c), "writtenByte(4)", x -> x.writtenByte(4));
            Checks.due("writtenByte(5)", Edges.thrown(c, x -> x.writtenByte(5)), "IndexOutOfBoundsException");
            c.crack(30);
            Checks.due("writePieces", c.writePieces(), 12);
        });
        edge(29, "Writes the pieces", () -> {
            // it is no change, and changes nothing but the text
            Supplier<CrackedColumn> cracked = () -> {
                CrackedColumn c = Checks.loaded(FIVE);
                c.crack(30);
                return c;
            };
            Supplier<CrackedColumn> written = () -> written(cracked.get());
            Edges.sameState("writePieces", written, cracked);
            Edges.sameChanges("writePieces", written, cracked);
        });
    }

    // ---- 30. writtenByte

    private static CrackedColumn written(CrackedColumn c) {
        c.writePieces();
        return c;
    }

    private static CrackedColumn loadedAndWritten() {
        return written(Checks.loaded(FIVE));
    }

    private static void writtenByte() {
        edge(30, "Returns a byte of the text that was written last", () -> {
            CrackedColumn c = loadedAndWritten();
            c.crack(20);
            c.insert(1, 1);
            c.query(0, 20);
            c.undo();
            Checks.due("the text that was written last", Checks.written(c), "0:5u0");
        });
        edge(30, "`index`: 0 for the first byte Returns the byte.", () -> {
            CrackedColumn c = Checks.loaded(FIVE);
            c.crack(20);
            c.sort(1);
            c.writePieces();
            int[] due = {'0', ':', '1', 'u', '0', ' ', '2', '0', ':', '4', 's', '0'};
            for (int index = 0; index < due.length; index++) {
                Checks.due("writtenByte(" + index + ")", c.writtenByte(index), due[index]);
            }
        });
    }

    private static void writtenByteRefused() {
        edge(30, "there is none at first", () -> {
            Edges.refused(CrackedColumn::new, "writtenByte(0)", INDEX, x -> x.writtenByte(0));
            Edges.refused(() -> Checks.loaded(FIVE), "writtenByte(0) behind load", INDEX, x -> x.writtenByte(0));
        });
        edge(30, "Throws `IndexOutOfBoundsException` if there is no such byte", () -> {
            Edges.allowed(UndoEdgesTest::loadedAndWritten, "writtenByte(4)", x -> x.writtenByte(4));
            Edges.refused(UndoEdgesTest::loadedAndWritten, "writtenByte(5)", INDEX, x -> x.writtenByte(5));
            for (int index : OUTSIDE) {
                Edges.refused(UndoEdgesTest::loadedAndWritten, "writtenByte(" + index + ")", INDEX, x -> x.writtenByte(index));
            }
            // a shorter text in place of a longer one
            CrackedColumn c = Checks.loaded(FIVE);
            c.crack(20);
            c.writePieces();
            Checks.due("writtenByte(11)", c.writtenByte(11), '0');
            c.undo();
            c.writePieces();
            Checks.due("writtenByte(5)", Edges.thrown(c, x -> x.writtenByte(5)), "IndexOutOfBoundsException");
        });
    }

    // ---- 31. undo

    private static void undo() {
        edge(31, "Undoes the latest change that has not been undone.", () -> {
            CrackedColumn c = new CrackedColumn();
            c.insert(1, 1);
            c.insert(2, 1);
            c.undo();
            c.insert(3, 1);
            c.insert(4, 1);
            c.undo();
            Checks.due("keys", c.count(0) + " " + c.row(0, 0) + " " + c.row(1, 0), "2 1 3");
            c.undo();
            Checks.due("keys", c.count(0) + " " + c.row(0, 0), "1 1");
            c.undo();
            Checks.due("rows", c.count(0), 0);
            Checks.due("undo of no change", Edges.thrown(c, x -> x.undo()), "IllegalStateException");
        });
        edge(31, "Undoes the latest change", () -> {
            // what threw, and what is no change, is passed over
            CrackedColumn c = Checks.loaded(FIVE);
            c.crack(20);
            Edges.thrown(c, x -> x.crack(-1));
            Edges.thrown(c, x -> x.delete(9));
            Checks.load(c, "row 1;");
            c.costOf(0, 5);
            c.writePieces();
            Checks.due("undo", c.undo(), 1);
            Checks.due("pieces", Checks.pieces(c), "0:5u0");
        });
    }

    private static void undoReturns() {
        edge(31, "Returns the number of changes that can still be undone.", () -> {
            for (int changes : new int[] {1, 2, 7, 8, 9, 10, 17}) {
                CrackedColumn c = new CrackedColumn();
                for (int i = 0; i < changes; i++) {
                    c.set(0, 1 + i);
                }
                for (int left = Math.min(changes, 8) - 1; left >= 0; left--) {
                    Checks.due("undo", c.undo(), left);
                    int undone = Math.min(changes, 8) - left;
                    Checks.due("the hot limit", c.count(6), undone == changes ? 3 : changes - undone);
                }
            }
            CrackedColumn c = new CrackedColumn();
            for (int i = 0; i < 8; i++) {
                c.set(0, 1 + i);
            }
            Checks.due("undo", c.undo(), 7);
            c.mergeAll();
            Checks.due("undo behind another change", c.undo(), 7);
            c.mergeAll();
            c.mergeAll();
            Checks.due("undo behind two other changes", c.undo(), 7);
        });
    }

    private static void undoRefused() {
        edge(31, "Throws `IllegalStateException` if there is no change to undo", () -> {
            Edges.refused(CrackedColumn::new, "undo of a new object", STATE, x -> x.undo());
            Edges.refused(() -> {
                CrackedColumn c = new CrackedColumn();
                Checks.load(c, "row 1;");
                return c;
            }, "undo behind a text with an error", STATE, x -> x.undo());
            for (int changes : new int[] {1, 8, 9}) {
                Edges.refused(() -> {
                    CrackedColumn c = Checks.loaded("");
                    for (int i = 1; i < changes; i++) {
                        c.insert(i, i);
                    }
                    for (int i = 0; i < Math.min(changes, 8); i++) {
                        c.undo();
                    }
                    return c;
                }, "undo behind all undos of " + changes + " changes", STATE, x -> x.undo());
            }
        });
    }

    /** The document's "at most 512 calls": the last of them is answered like the first. */
    private static void lastCalls() {
        CrackedColumn c = new CrackedColumn();
        for (int i = 0; i < 511; i++) {
            c.query(0, 10000);
        }
        Checks.due("heat behind 511 queries", c.piece(0, 3), 511);
        c = new CrackedColumn();
        for (int i = 0; i < 503; i++) {
            c.set(0, 1 + i % 20);
        }
        for (int left = 7; left >= 0; left--) {
            Checks.due("undo", c.undo(), left);
        }
        Checks.due("the 512th call", Edges.thrown(c, x -> x.undo()), "IllegalStateException");
        c = new CrackedColumn();
        for (int i = 0; i < 511; i++) {
            c.writePieces();
        }
        Checks.due("the 512th call", c.writtenByte(4), '0');
    }
}
