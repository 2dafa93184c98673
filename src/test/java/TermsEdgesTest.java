/** Terms 1 to 4: each sentence about rows and the index, cracking, pending rows and queries, at its boundaries. */
public final class TermsEdgesTest {
    // keys 50 10 30 70 20
    private static final String FIVE = "row 50 1;row 10 2;row 30 3;row 70 4;row 20 5;";
    private static final String FULL = "row5 1;".repeat(120);

    public static void main(String[] args) {
        rowLimit();
        rowNumbers();
        states();
        indexAndPieces();
        piecesAndOrder();
        settings();
        crackAtBounds();
        crackDivides();
        crackCosts();
        crackHeats();
        insertsAndDeletes();
        mergesIntoPieces();
        mergesOutOfPieces();
        mergeCosts();
        tooManyPending();
        spans();
        queryMerges();
        queryCracks();
        queryReads();
        querySorts();
        sortCosts();
        queryDrops();
        dropsPairs();
        queryCosts();
        keptQueries();
        totalCost();
        Edges.finish("Terms", 1, 4);
    }

    private static void edge(int section, String words, Checks.Call test) {
        Edges.edge("Terms " + section, words, test);
    }

    private static String states(CrackedColumn c) {
        StringBuilder text = new StringBuilder();
        for (int row = 0; row < c.count(0); row++) {
            text.append(row > 0 ? " " : "").append(c.row(row, 2));
        }
        return text.toString();
    }

    /** A column with one piece of this heat, and an empty one with the bound 10000. */
    private static CrackedColumn heated(String text, int heat) {
        CrackedColumn c = Checks.loaded(text + "hot 20;");
        for (int i = 0; i < heat; i++) {
            c.query(0, 10000);
        }
        return c;
    }

    // ---- 1. rows and the index

    private static void rowLimit() {
        edge(1, "There are at most 120 rows", () -> {
            CrackedColumn c = Checks.loaded("row5 1;".repeat(119));
            Checks.due("insert of the 120th row", c.insert(5, 1), 119);
            Checks.due("rows", c.count(0), 120);
            Edges.refused(() -> Checks.loaded(FULL), "insert of a 121st row", IllegalStateException.class,
                x -> x.insert(5, 1));
        });
        edge(1, "(all that were ever there)", () -> {
            CrackedColumn c = Checks.loaded("row5 1;".repeat(119));
            c.insert(5, 1);
            c.delete(119);
            c.delete(0);
            c.mergeAll();
            Checks.due("rows, those that live, those in the index", c.count(0) + " " + c.count(1) + " " + c.count(2),
                "120 118 118");
            Checks.due("insert behind deletes", Edges.thrown(c, x -> x.insert(5, 1)), "IllegalStateException");
            c.undo();
            c.undo();
            c.undo();
            c.undo();
            Checks.due("insert behind an undo of the 120th", c.insert(6, 1), 119);
            Checks.due("key of the row behind the undo", c.row(119, 0), 6);
        });
    }

    private static void rowNumbers() {
        edge(1, "numbered from 0 in the order in which they were told or inserted", () -> {
            CrackedColumn c = Checks.loaded("row 9 1;row 3 2;");
            Checks.due("insert", c.insert(6, 3), 2);
            c.delete(2);
            Checks.due("insert behind the delete of an inserted row", c.insert(1, 4), 3);
            Checks.due("keys", c.row(0, 0) + " " + c.row(1, 0) + " " + c.row(2, 0) + " " + c.row(3, 0), "9 3 6 1");
            Checks.due("the first insert into a new column", new CrackedColumn().insert(0, 0), 0);
        });
    }

    private static void states() {
        edge(1, "A row has a key (0 to 9999), a value (-99 to 99)", () -> {
            CrackedColumn c = Checks.loaded("row 0 -99;row 9999 99;");
            c.insert(0, -99);
            c.insert(9999, 99);
            for (int row = 0; row < 4; row++) {
                Checks.due("key of row " + row, c.row(row, 0), row % 2 * 9999);
                Checks.due("value of row " + row, c.row(row, 1), row % 2 * 198 - 99);
            }
        });
        edge(1, "a state: 0 in the index; 1 inserted, but pending; 2 in the index, with a pending delete; 3 deleted", () -> {
            CrackedColumn c = Checks.loaded("row 5 1;row 6 1;");
            c.insert(7, 1);
            c.insert(8, 1);
            c.delete(0);
            c.delete(3);
            Checks.due("states", states(c), "2 0 1 3");
            Checks.due("pending", Checks.pendingRows(c), "2 0");
            c.mergeAll();
            Checks.due("states behind mergeAll", states(c), "3 0 0 3");
        });
        edge(1, "A row lives if its state is 0 or 1.", () -> {
            CrackedColumn c = Checks.loaded("row 5 1;row 5 1;row 5 1;");
            c.insert(5, 1);
            c.insert(5, 1);
            c.delete(4);
            c.delete(0);
            c.mergeAll();
            c.insert(5, 1);
            c.delete(1);
            Checks.due("states", states(c), "3 2 0 0 3 1");
            Checks.due("rows that live", c.count(1), 3);
            Checks.due("rows that a scan finds", c.scan(5, 6, 0), 3);
            Checks.due("the last row in the order", c.ordered(2), 5);
            Checks.due("a 4th row in the order", Edges.thrown(c, x -> x.ordered(3)), "IndexOutOfBoundsException");
        });
    }

    private static void indexAndPieces() {
        edge(1, "The index is a list of the rows with the states 0 and 2, at places from 0 on.", () -> {
            CrackedColumn c = Checks.loaded("row 5 1;row 6 1;row 7 1;");
            c.insert(8, 1);
            c.delete(0);
            Checks.due("entries", Checks.entries(c), "0 1 2");
            Checks.due("places", c.row(0, 3) + " " + c.row(2, 3) + " " + c.row(3, 3), "0 2 -1");
            c.mergeAll();
            Checks.due("entries behind mergeAll", Checks.entries(c), "1 2 3");
            Checks.due("places behind mergeAll", c.row(0, 3) + " " + c.row(1, 3) + " " + c.row(3, 3), "-1 0 2");
        });
        edge(1, "It is divided into pieces, numbered from 0, one behind the other, without gaps.", () -> {
            CrackedColumn c = Checks.loaded(FIVE);
            for (int at : new int[] {10, 20, 21, 60, 71, 10000}) {
                c.crack(at);
            }
            int place = 0;
            for (int piece = 0; piece < 7; piece++) {
                Checks.due("first place of piece " + piece, c.piece(piece, 1), place);
                place += c.piece(piece, 2);
            }
            Checks.due("the places of all pieces", place, 5);
        });
        edge(1, "Each piece has a bound; the bound of piece 0 is 0, and the bounds rise.", () -> {
            CrackedColumn c = Checks.loaded(FIVE);
            for (int at : new int[] {10000, 1, 30, 29, 31, 9999, 2}) {
                c.crack(at);
            }
            int[] bounds = {0, 1, 2, 29, 30, 31, 9999, 10000};
            for (int piece = 0; piece < bounds.length; piece++) {
                Checks.due("bound of piece " + piece, c.piece(piece, 0), bounds[piece]);
            }
        });
        edge(1, "All keys of a piece are at least its bound, and less than the bound of the next piece, if there is one.", () -> {
            CrackedColumn c = Checks.loaded("row 20 1;row 19 1;row 39 1;row 40 1;row 0 1;row 9999 1;");
            c.query(20, 40);
            for (int key : new int[] {40, 39, 20, 19}) {
                c.insert(key, 1);
            }
            c.mergeAll();
            Checks.due("pieces", Checks.pieces(c), "0:3u0 20:4u1 40:3u0");
            Checks.due("entries", Checks.entries(c), "1 4 9 0 2 7 8 3 5 6");
        });
    }

    private static void piecesAndOrder() {
        edge(1, "A piece can be empty.", () -> {
            CrackedColumn c = Checks.loaded("row 5 1;");
            for (int at : new int[] {5, 6, 7, 10000}) {
                c.crack(at);
            }
            Checks.due("pieces", Checks.pieces(c), "0:0u0 5:1u0 6:0u0 7:0u0 10000:0u0");
            Checks.due("first places", c.piece(0, 1) + " " + c.piece(2, 1) + " " + c.piece(4, 1), "0 1 1");
            Checks.due("all pieces of a column without rows", new CrackedColumn().piece(0, 2), 0);
        });
        edge(1, "A piece has a heat (a number from 0 on) and is sorted or not", () -> {
            CrackedColumn c = Checks.loaded(FIVE + "hot 20;");
            Checks.due("heat at first", c.piece(0, 3), 0);
            c.sort(0);
            for (int i = 1; i <= 30; i++) {
                c.query(20, 60);
                Checks.due("heat behind queries", c.piece(1, 3), i);
            }
            Checks.due("pieces", Checks.pieces(c), "0:1s0 20:3s30 60:1s0");
        });
        edge(1, "in a sorted piece the rows stand in ascending order of their keys, of several with the same key in"
            + " ascending order of their numbers", () -> {
            CrackedColumn c = Checks.loaded("row 5 1;row 4 1;row 5 1;row 3 1;row 4 1;");
            c.sort(0);
            Checks.due("entries", Checks.entries(c), "3 1 4 0 2");
            for (int key : new int[] {5, 3, 4, 6, 2}) {
                c.insert(key, 1);
            }
            c.mergeAll();
            Checks.due("entries behind inserts", Checks.entries(c), "9 3 6 1 4 7 0 2 5 8");
        });
        edge(1, "At first there is one piece with all rows in the order of their numbers, not sorted, with the heat 0.", () -> {
            CrackedColumn c = Checks.loaded("row 1 1;row 2 1;row 3 1;");
            Checks.due("pieces of rows that stand in order", Checks.pieces(c), "0:3u0");
            Checks.due("entries", Checks.entries(Checks.loaded(FIVE)), "0 1 2 3 4");
            Checks.due("pieces of 120 rows", Checks.pieces(Checks.loaded(FULL)), "0:120u0");
            Checks.due("pieces without rows", Checks.pieces(Checks.loaded("")), "0:0u0");
        });
    }

    private static void settings() {
        edge(1, "There are four settings: the hot limit (1 to 20, at first 3)", () -> setting(0, "hot", 1, 20, 3));
        edge(1, "the sort size (2 to 120, at first 16)", () -> setting(1, "size", 2, 120, 16));
        edge(1, "the most pieces (2 to 40, at first 12)", () -> setting(2, "pieces", 2, 40, 12));
        edge(1, "the most pending rows (1 to 30, at first 8)", () -> setting(3, "pending", 1, 30, 8));
    }

    private static void setting(int what, String word, int least, int most, int first) {
        Checks.due("at first", new CrackedColumn().count(6 + what), first);
        for (int to : new int[] {least, most}) {
            CrackedColumn c = Checks.loaded(word + " " + to + ";");
            Checks.due("the setting of a text", c.count(6 + what), to);
            Checks.due("set to what it is", c.set(what, to), to);
            c = new CrackedColumn();
            Checks.due("set(" + what + ", " + to + ")", c.set(what, to), first);
            Checks.due("the setting behind set", c.count(6 + what), to);
        }
        for (int to : new int[] {least - 1, most + 1}) {
            Checks.due("load of " + word + " " + to, Checks.load(new CrackedColumn(), word + " " + to + ";"), -3);
            Edges.refused(CrackedColumn::new, "set(" + what + ", " + to + ")", IllegalArgumentException.class,
                x -> x.set(what, to));
        }
    }

    // ---- 2. cracking

    private static void crackAtBounds() {
        edge(2, "To crack at a number b (0 to 10000) means", () -> {
            CrackedColumn c = Checks.loaded("row 0 1;row 1 1;row 9998 1;row 9999 1;");
            Checks.due("crack(0)", c.crack(0), 0);
            Checks.due("crack(1)", c.crack(1), 4);
            Checks.due("crack(9999)", c.crack(9999), 3);
            Checks.due("crack(10000)", c.crack(10000), 1);
            Checks.due("pieces", Checks.pieces(c), "0:1u0 1:2u0 9999:1u0 10000:0u0");
            Edges.refused(() -> Checks.loaded(FIVE), "crack(-1)", IllegalArgumentException.class, x -> x.crack(-1));
            Edges.refused(() -> Checks.loaded(FIVE), "crack(10001)", IllegalArgumentException.class, x -> x.crack(10001));
        });
        edge(2, "if there is a piece with the bound b, nothing is done (cost 0)", () -> {
            CrackedColumn c = heated(FIVE, 3);
            c.crack(30);
            Checks.due("pieces", Checks.pieces(c), "0:2u1 30:3u1 10000:0u0");
            for (int at : new int[] {0, 30, 10000}) {
                Checks.due("crack(" + at + ")", c.crack(at), 0);
            }
            Checks.due("pieces behind cracks at bounds", Checks.pieces(c), "0:2u1 30:3u1 10000:0u0");
            Checks.due("entries", Checks.entries(c), "1 4 0 2 3");
            Checks.due("crack(29)", c.crack(29), 2);
            Checks.due("crack(31)", c.crack(31), 3);
        });
    }

    private static void crackDivides() {
        edge(2, "the last piece with a bound less than b is divided into two pieces", () -> {
            CrackedColumn c = Checks.loaded(FIVE);
            c.crack(20);
            c.crack(60);
            c.crack(59);
            c.crack(61);
            c.crack(19);
            Checks.due("pieces", Checks.pieces(c), "0:1u0 19:0u0 20:3u0 59:0u0 60:0u0 61:1u0");
        });
        edge(2, "the first one keeps its bound and has the rows with keys less than b, the second one has the bound b and the"
            + " others", () -> {
            CrackedColumn c = Checks.loaded("row 30 1;row 29 1;row 31 1;row 30 1;");
            c.crack(30);
            Checks.due("pieces", Checks.pieces(c), "0:1u0 30:3u0");
            Checks.due("entries", Checks.entries(c), "1 0 2 3");
            Checks.due("pieces with all rows in the second part", Checks.pieces(cracked(FULL, 5)), "0:0u0 5:120u0");
            Checks.due("pieces with all rows in the first part", Checks.pieces(cracked(FULL, 6)), "0:120u0 6:0u0");
            Checks.due("pieces of an empty piece", Checks.pieces(cracked("", 6)), "0:0u0 6:0u0");
        });
    }

    private static CrackedColumn cracked(String text, int at) {
        CrackedColumn c = Checks.loaded(text);
        c.crack(at);
        return c;
    }

    private static void crackCosts() {
        edge(2, "If the piece is sorted, both parts are sorted, and the cost is the least c with 2 to the power c at least the"
            + " size of the piece plus 1", () -> {
            int[] sizes = {0, 1, 2, 3, 4, 7, 8, 15, 16, 31, 32, 63, 64, 119, 120};
            int[] costs = {0, 1, 2, 2, 3, 3, 4, 4, 5, 5, 6, 6, 7, 7, 7};
            for (int i = 0; i < sizes.length; i++) {
                CrackedColumn c = Checks.loaded("row5 1;".repeat(sizes[i]));
                c.sort(0);
                Checks.due("crack(5) of " + sizes[i] + " rows", c.crack(5), costs[i]);
                Checks.due("pieces", Checks.pieces(c), "0:0s0 5:" + sizes[i] + "s0");
                Checks.due("crack(6) of " + sizes[i] + " rows", c.crack(6), costs[i]);
                Checks.due("pieces", Checks.pieces(c), "0:0s0 5:" + sizes[i] + "s0 6:0s0");
            }
        });
        edge(2, "otherwise the rows of each part stay in their order, both parts are not sorted, and the cost is the size of"
            + " the piece", () -> {
            for (int size : new int[] {0, 1, 2, 119, 120}) {
                CrackedColumn c = Checks.loaded("row5 1;".repeat(size));
                Checks.due("crack(5) of " + size + " rows", c.crack(5), size);
                Checks.due("crack(6) of " + size + " rows", c.crack(6), size);
                Checks.due("pieces", Checks.pieces(c), "0:0u0 5:" + size + "u0 6:0u0");
            }
            CrackedColumn c = Checks.loaded("row 9 1;row 3 1;row 8 1;row 2 1;row 7 1;row 1 1;");
            Checks.due("crack(5)", c.crack(5), 6);
            Checks.due("entries", Checks.entries(c), "1 3 5 0 2 4");
        });
    }

    private static void crackHeats() {
        edge(2, "Both parts have half of the heat, rounded down.", () -> {
            int[] halves = {0, 0, 1, 1, 2, 2};
            for (int heat = 0; heat < halves.length; heat++) {
                CrackedColumn c = heated(FIVE, heat);
                c.crack(10000);
                Checks.due("heat", c.piece(0, 3), heat);
                c.crack(30);
                Checks.due("heats of both parts of a piece with the heat " + heat, c.piece(0, 3) + " " + c.piece(1, 3),
                    halves[heat] + " " + halves[heat]);
            }
            CrackedColumn c = heated(FIVE, 7);
            c.sort(0);
            c.crack(30);
            Checks.due("pieces of a sorted one", Checks.pieces(c), "0:2s3 30:3s3 10000:0u0");
        });
        edge(2, "(A piece with the bound 10000 is empty.)", () -> {
            CrackedColumn c = Checks.loaded("row 9999 1;");
            c.crack(10000);
            c.insert(9999, 2);
            c.mergeAll();
            Checks.due("pieces", Checks.pieces(c), "0:2u0 10000:0u0");
            Checks.due("query(9999, 10000)", c.query(9999, 10000), 2);
            Checks.due("pieces", Checks.pieces(c), "0:0u0 9999:2u1 10000:0u0");
            Checks.due("pieceOf(9999)", c.pieceOf(9999), 1);
        });
    }

    // ---- 3. pending rows

    private static void insertsAndDeletes() {
        edge(3, "An insert makes a new row with the state 1, as the last pending row.", () -> {
            CrackedColumn c = Checks.loaded("row 5 1;");
            c.insert(9, 1);
            Checks.due("pending", Checks.pendingRows(c), "1");
            c.delete(0);
            c.insert(1, 1);
            Checks.due("pending", Checks.pendingRows(c), "1 0 2");
            Checks.due("states", states(c), "2 1 1");
            Checks.due("rows in the index", c.count(2), 1);
        });
        edge(3, "A delete of a row with the state 0 makes its state 2 and makes it the last pending row", () -> {
            CrackedColumn c = Checks.loaded("row 5 1;row 6 1;");
            c.insert(9, 1);
            c.delete(1);
            c.delete(0);
            Checks.due("pending", Checks.pendingRows(c), "2 1 0");
            Checks.due("states", states(c), "2 2 1");
            Checks.due("entries", Checks.entries(c), "0 1");
        });
        edge(3, "a delete of a row with the state 1 makes its state 3, and it is not pending any more", () -> {
            CrackedColumn c = Checks.loaded("row 5 1;");
            for (int i = 0; i < 4; i++) {
                c.insert(i, 1);
            }
            c.delete(2);
            Checks.due("pending without one between others", Checks.pendingRows(c), "1 3 4");
            c.delete(1);
            Checks.due("pending without the first one", Checks.pendingRows(c), "3 4");
            c.delete(4);
            Checks.due("pending without the last one", Checks.pendingRows(c), "3");
            c.delete(3);
            Checks.due("pending without the only one", Checks.pendingRows(c), "");
            Checks.due("states", states(c), "0 3 3 3 3");
            Checks.due("mergeAll", c.mergeAll(), 0);
            Checks.due("entries", Checks.entries(c), "0");
        });
    }

    private static void mergesIntoPieces() {
        edge(3, "To merge a pending row means: it is not pending any more.", () -> {
            CrackedColumn c = Checks.loaded("row 5 1;");
            c.insert(9, 1);
            c.delete(0);
            c.insert(1, 1);
            c.query(5, 6);
            Checks.due("pending without one between others", Checks.pendingRows(c), "1 2");
            c.query(1, 2);
            Checks.due("pending without the last one", Checks.pendingRows(c), "1");
            c.query(9, 10);
            Checks.due("pending without the only one", Checks.pendingRows(c), "");
        });
        edge(3, "A row with the state 1 comes into the piece into which its key belongs (the last one with a bound not greater"
            + " than its key)", () -> {
            CrackedColumn c = new CrackedColumn();
            c.crack(20);
            c.crack(21);
            c.crack(10000);
            for (int key : new int[] {0, 19, 20, 21, 9999}) {
                c.insert(key, 1);
            }
            c.mergeAll();
            Checks.due("pieces", Checks.pieces(c), "0:2u0 20:1u0 21:2u0 10000:0u0");
            Checks.due("entries", Checks.entries(c), "0 1 2 3 4");
        });
        edge(3, "if the piece is sorted, at its place in the order", () -> {
            CrackedColumn c = new CrackedColumn();
            c.crack(10);
            c.sort(0);
            c.sort(1);
            for (int key : new int[] {5, 5, 7, 3, 6, 10}) {
                c.insert(key, 1);
                c.mergeAll();
            }
            Checks.due("entries", Checks.entries(c), "3 0 1 4 2 5");
            Checks.due("pieces", Checks.pieces(c), "0:5s0 10:1s0");
        });
        edge(3, "otherwise behind all rows of the piece; its state is 0 then", () -> {
            CrackedColumn c = cracked("row 5 1;row 15 1;row 25 1;", 10);
            c.crack(20);
            for (int key : new int[] {11, 10, 19, 0}) {
                c.insert(key, 1);
            }
            c.mergeAll();
            Checks.due("entries", Checks.entries(c), "0 6 1 3 4 5 2");
            Checks.due("pieces", Checks.pieces(c), "0:2u0 10:4u0 20:1u0");
            Checks.due("states", states(c), "0 0 0 0 0 0 0");
        });
    }

    private static void mergesOutOfPieces() {
        edge(3, "A row with the state 2 is taken out of its piece, the others keep their order; its state is 3 then.", () -> {
            for (int row = 0; row < 3; row++) {
                // 25 | 19 11 15 | 5, the middle piece has the rows 1, 2 and 3
                CrackedColumn c = cracked("row 5 1;row 19 1;row 11 1;row 15 1;row 25 1;", 10);
                c.crack(20);
                c.delete(row + 1);
                c.mergeAll();
                Checks.due("entries without row " + (row + 1), Checks.entries(c), new String[] {"0 2 3 4", "0 1 3 4",
                    "0 1 2 4"}[row]);
                Checks.due("pieces", Checks.pieces(c), "0:1u0 10:2u0 20:1u0");
                Checks.due("state", c.row(row + 1, 2), 3);
            }
            CrackedColumn c = Checks.loaded("row 5 1;");
            c.sort(0);
            c.delete(0);
            c.mergeAll();
            Checks.due("pieces without the only row", Checks.pieces(c), "0:0s0");
            Checks.due("entries without the only row", Checks.entries(c), "");
            c.insert(5, 1);
            c.mergeAll();
            Checks.due("a row with the same key comes in", Checks.entries(c), "1");
        });
    }

    private static void mergeCosts() {
        edge(3, "The cost is 1 plus the number of pieces behind the piece.", () -> {
            int[] keys = {0, 9, 10, 19, 20, 9999};
            int[] costs = {4, 4, 3, 3, 2, 2};
            for (int i = 0; i < keys.length; i++) {
                CrackedColumn c = cracked("row 0 1;row 10 1;row 20 1;", 10);
                c.crack(20);
                c.crack(10000);
                c.insert(keys[i], 1);
                Checks.due("mergeAll with the key " + keys[i], c.mergeAll(), costs[i]);
                c.delete(3);
                Checks.due("mergeAll of its delete", c.mergeAll(), costs[i]);
            }
            CrackedColumn one = Checks.loaded("row 5 1;");
            one.delete(0);
            Checks.due("mergeAll with one piece", one.mergeAll(), 1);
        });
    }

    private static void tooManyPending() {
        edge(3, "If there are more pending rows than the most pending rows, the oldest ones are merged until there are not", () -> {
            for (int most : new int[] {1, 2, 8, 30}) {
                CrackedColumn c = Checks.loaded("pending " + most + ";");
                for (int i = 0; i < most; i++) {
                    c.insert(i, 1);
                }
                Checks.due("pending rows, cost, rows in the index", c.count(3) + " " + c.count(10) + " " + c.count(2),
                    most + " 0 0");
                c.insert(99, 1);
                Checks.due("behind one more", c.count(3) + " " + c.count(10) + " " + c.count(2), most + " 1 1");
                Checks.due("the oldest one is in the index", c.entry(0), 0);
                Checks.due("the oldest one that is pending", c.pending(0), 1);
                Checks.due("the last one that is pending", c.pending(most - 1), most);
            }
        });
        edge(3, "(behind an insert or a delete, and when the setting is changed)", () -> {
            CrackedColumn c = Checks.loaded(FIVE + "pending 2;");
            c.delete(0);
            c.insert(9, 1);
            Checks.due("delete(3)", c.delete(3), 2);
            Checks.due("pending behind a delete", Checks.pendingRows(c), "5 3");
            Checks.due("states", states(c), "3 0 0 2 0 1");
            Checks.due("delete of an inserted row", c.delete(5), 1);
            Checks.due("cost", c.count(10), 1);
            c.set(3, 30);
            for (int i = 0; i < 29; i++) {
                c.insert(i, 1);
            }
            Checks.due("pending", c.count(3), 30);
            c.set(3, 30);
            Checks.due("pending behind a setting of so many", c.count(3), 30);
            c.set(3, 29);
            Checks.due("pending behind a setting of one less", c.count(3) + " " + c.pending(0), "29 6");
            c.set(0, 1);
            Checks.due("pending behind another setting", c.count(3), 29);
            c.set(3, 1);
            Checks.due("pending behind the least setting", c.count(3) + " " + c.pending(0), "1 34");
            Checks.due("cost", c.count(10), 1 + 1 + 28);
        });
    }

    // ---- 4. queries

    private static void spans() {
        edge(4, "A query asks for a span: all keys from low on that are less than high (0 to 10000, low less than high).", () -> {
            String keys = "row 0 1;row 19 1;row 20 1;row 59 1;row 60 1;row 9999 1;";
            int[][] due = {{20, 60, 2, 20, 59}, {19, 61, 4, 19, 60}, {21, 59, 0, -1, -1}, {20, 21, 1, 20, 20},
                {0, 1, 1, 0, 0}, {9999, 10000, 1, 9999, 9999}, {0, 10000, 6, 0, 9999}, {1, 9999, 4, 19, 60}};
            for (int[] row : due) {
                CrackedColumn c = Checks.loaded(keys);
                Checks.due("query(" + row[0] + ", " + row[1] + ")", c.query(row[0], row[1]), row[2]);
                Checks.due("least and greatest key", c.answer(2) + " " + c.answer(3), row[3] + " " + row[4]);
            }
            int[][] bad = {{-1, 5}, {5, 5}, {6, 5}, {0, 10001}, {10000, 10001}, {0, 0}, {10000, 10000}};
            for (int[] span : bad) {
                Edges.refused(() -> Checks.loaded(keys), "query(" + span[0] + ", " + span[1] + ")",
                    IllegalArgumentException.class, x -> x.query(span[0], span[1]));
            }
        });
    }

    private static void queryMerges() {
        edge(4, "All pending rows with keys in the span are merged", () -> {
            CrackedColumn c = Checks.loaded("row 19 1;row 20 1;row 59 1;row 60 1;");
            for (int key : new int[] {60, 59, 20, 19}) {
                c.insert(key, 1);
            }
            for (int row = 0; row < 4; row++) {
                c.delete(row);
            }
            Checks.due("query", c.query(20, 60), 2);
            Checks.due("rows that it merged", c.answer(5), 4);
            Checks.due("pending", Checks.pendingRows(c), "4 7 0 3");
            c.query(61, 10000);
            Checks.due("rows that a query without pending rows merged", c.answer(5), 0);
            c.query(0, 10000);
            Checks.due("rows that a query of all merged", c.answer(5) + " " + c.count(3), "4 0");
        });
        edge(4, "in the order in which they are pending", () -> {
            CrackedColumn c = Checks.loaded("row 5 1;");
            for (int key : new int[] {9, 3, 4}) {
                c.insert(key, 1);
            }
            c.query(0, 10000);
            Checks.due("entries", Checks.entries(c), "0 1 2 3");
        });
        edge(4, "It does, in this order:", () -> {
            // merged before the cracks: 1 for one piece, then cracks of 2 and 2 rows, 2 rows read, sorted by 2
            CrackedColumn c = Checks.loaded("row 30 1;hot 1;pieces 2;");
            c.insert(20, 1);
            c.query(20, 40);
            Checks.due("cost", c.answer(4), 1 + 2 + 2 + 2 + 2);
            // sorted before the bound at 20 is dropped, behind which it is not
            Checks.due("pieces", Checks.pieces(c), "0:2u1 40:0u0");
            Checks.due("entries", Checks.entries(c), "1 0");
        });
    }

    private static void queryCracks() {
        edge(4, "It cracks at low, then at high.", () -> {
            // 4 rows for the crack at low and 3 at high; the other way it would be 4 and 1
            CrackedColumn c = Checks.loaded("row 10 1;row 70 1;row 80 1;row 90 1;");
            c.query(20, 60);
            Checks.due("cost", c.answer(4), 4 + 3);
            // a heat of 4 becomes 2 and 2, then the second one 1 and 1
            c = heated(FIVE, 4);
            c.query(20, 60);
            Checks.due("pieces", Checks.pieces(c), "0:1u2 20:3u2 60:1u1 10000:0u0");
            // one of the bounds is there, or both
            c = cracked(FIVE, 20);
            c.query(20, 60);
            Checks.due("cost with a bound at low", c.answer(4), 4 + 3);
            c.query(20, 60);
            Checks.due("cost with both bounds", c.answer(4), 3);
            c = cracked(FIVE, 60);
            c.query(20, 60);
            Checks.due("cost with a bound at high", c.answer(4), 4 + 3);
            c = Checks.loaded(FIVE);
            c.query(0, 60);
            Checks.due("cost with low 0", c.answer(4), 5 + 4);
        });
    }

    private static void queryReads() {
        edge(4, "The pieces with bounds from low on that are less than high are those that it reads", () -> {
            CrackedColumn c = Checks.loaded(FIVE);
            for (int at : new int[] {15, 20, 21, 59, 60, 61}) {
                c.crack(at);
            }
            c.query(20, 60);
            Checks.due("pieces that it read", c.answer(6), 3);
            Checks.due("pieces", Checks.pieces(c), "0:1u0 15:0u0 20:1u1 21:2u1 59:0u1 60:0u0 61:1u0");
        });
        edge(4, "each one's heat becomes 1 greater", () -> {
            CrackedColumn c = cracked("", 5);
            c.crack(6);
            c.query(5, 6);
            c.query(5, 6);
            c.query(0, 6);
            Checks.due("pieces", Checks.pieces(c), "0:0u1 5:0u3 6:0u0");
        });
        edge(4, "Its answer is made of all rows of these pieces; the cost is the number of these rows.", () -> {
            CrackedColumn c = cracked(FULL, 5);
            c.crack(6);
            c.set(0, 20);
            Checks.due("query of all", c.query(5, 6), 120);
            Checks.due("cost", c.answer(4), 120);
            Checks.due("query of none", c.query(0, 5), 0);
            Checks.due("cost", c.answer(4), 0);
            Checks.due("query of none at the end", c.query(6, 10000) + c.answer(4), 0);
        });
    }

    private static String sorts(String text, int low, int high) {
        CrackedColumn c = cracked(text, low);
        c.crack(high);
        c.query(low, high);
        return c.answer(7) + " " + c.answer(4);
    }

    private static void querySorts() {
        edge(4, "Of these pieces, in their order, each one that is not sorted", () -> {
            CrackedColumn c = cracked("row 6 1;row 5 1;row 8 1;row 7 1;row 4 1;row 3 1;row 10 1;row 9 1;hot 20;", 5);
            c.crack(7);
            c.crack(9);
            c.query(3, 11);
            c.set(0, 1);
            c.query(5, 9);
            Checks.due("both are sorted, those ahead and behind, that are as hot, are not", Checks.pieces(c),
                "0:0u0 3:2u1 5:2s2 7:2s2 9:2u1 11:0u0");
            Checks.due("cost", c.answer(4), 4 + 2 + 2);
            c.query(5, 9);
            Checks.due("sorted ones are not sorted again", c.answer(7) + " " + c.answer(4), "0 4");
        });
        edge(4, "whose heat is at least the hot limit", () -> {
            for (int limit : new int[] {1, 2, 20}) {
                CrackedColumn c = cracked("row 6 1;row 5 1;hot " + limit + ";", 5);
                c.crack(7);
                for (int heat = 1; heat < limit; heat++) {
                    c.query(5, 7);
                }
                Checks.due("pieces with the heat " + (limit - 1), Checks.pieces(c), "0:0u0 5:2u" + (limit - 1) + " 7:0u0");
                c.query(5, 7);
                Checks.due("pieces with the heat " + limit, Checks.pieces(c), "0:0u0 5:2s" + limit + " 7:0u0");
            }
        });
        edge(4, "whose size is at least 2 and at most the sort size", () -> {
            Checks.due("no row", sorts("hot 1;", 5, 6), "0 0");
            Checks.due("1 row", sorts("hot 1;row 5 1;", 5, 6), "0 1");
            Checks.due("2 rows", sorts("hot 1;row 5 1;row 5 1;", 5, 6), "1 4");
            Checks.due("2 rows of at most 2", sorts("hot 1;size 2;row 5 1;row 5 1;", 5, 6), "1 4");
            Checks.due("3 rows of at most 2", sorts("hot 1;size 2;row 5 1;row 5 1;row 5 1;", 5, 6), "0 3");
            Checks.due("16 rows of at most 16", sorts("hot 1;" + "row 5 1;".repeat(16), 5, 6), "1 80");
            Checks.due("17 rows of at most 16", sorts("hot 1;" + "row 5 1;".repeat(17), 5, 6), "0 17");
            Checks.due("119 rows of at most 119", sorts("hot 1;size 119;" + "row5 1;".repeat(119), 5, 6), "1 952");
            Checks.due("120 rows of at most 119", sorts("hot 1;size 119;" + FULL, 5, 6), "0 120");
            Checks.due("120 rows of at most 120", sorts("hot 1;size 120;" + FULL, 5, 6), "1 960");
        });
    }

    private static void sortCosts() {
        edge(4, "is sorted; the cost is its size times the least c with 2 to the power c at least its size", () -> {
            int[] sizes = {2, 3, 4, 5, 8, 9, 16, 17, 32, 33, 64, 65, 120};
            int[] powers = {1, 2, 2, 3, 3, 4, 4, 5, 5, 6, 6, 7, 7};
            for (int i = 0; i < sizes.length; i++) {
                Checks.due(sizes[i] + " rows", sorts("hot 1;size 120;" + "row5 1;".repeat(sizes[i]), 5, 6),
                    "1 " + (sizes[i] + sizes[i] * powers[i]));
            }
        });
    }

    private static void queryDrops() {
        edge(4, "As long as there are more pieces than the most pieces, a bound is dropped", () -> {
            int[] most = {5, 4, 3, 2};
            for (int i = 0; i < most.length; i++) {
                CrackedColumn c = cracked("", 10);
                c.crack(20);
                c.set(2, most[i]);
                c.query(12, 18);
                Checks.due("pieces, bounds that were dropped", c.count(4) + " " + c.answer(8), most[i] + " " + (5 - most[i]));
            }
            CrackedColumn c = cracked("pieces 40;", 1);
            for (int at = 2; at < 60; at++) {
                c.crack(at);
            }
            c.query(100, 200);
            Checks.due("pieces and drops behind 62 pieces", c.count(4) + " " + c.answer(8), "40 22");
            c.set(2, 2);
            c.query(0, c.piece(1, 0));
            Checks.due("pieces and drops behind 40 pieces", c.count(4) + " " + c.answer(8), "2 38");
        });
        edge(4, "(This costs nothing.)", () -> {
            CrackedColumn c = cracked(FIVE + "pieces 2;", 20);
            c.query(20, 60);
            Checks.due("bounds that were dropped, cost", c.answer(8) + " " + c.answer(4), "1 " + (4 + 3));
            Checks.due("total cost", c.count(10), 5 + 4 + 3);
        });
    }

    /** A column with the pieces 0, 10, 20, .. that have these heats. */
    private static CrackedColumn withHeats(int... heats) {
        CrackedColumn c = Checks.loaded("hot 20;");
        for (int piece = 1; piece <= heats.length; piece++) {
            c.crack(piece * 10);
        }
        for (int piece = 0; piece < heats.length; piece++) {
            for (int i = 0; i < heats[piece]; i++) {
                c.query(piece * 10, piece * 10 + 10);
            }
        }
        c.drop(heats.length);
        return c;
    }

    private static void dropsPairs() {
        edge(4, "of all pairs of pieces that follow one another the one with the least sum of both heats (of several the first"
            + " one)", () -> {
            int[][] heats = {{2, 2, 2, 2}, {2, 2, 2, 1}, {0, 2, 2, 1}, {3, 1, 1, 2}, {5, 0, 3, 1}, {0, 4, 1, 4}, {1, 4, 0, 3}};
            String[] due = {"0:0u3 10:0u4 30:0u2", "0:0u3 10:0u2 20:0u3", "0:0u3 20:0u2 30:0u1", "0:0u4 10:0u2 30:0u2",
                "0:0u6 10:0u3 30:0u1", "0:0u5 20:0u1 30:0u4", "0:0u2 10:0u4 20:0u3"};
            for (int i = 0; i < heats.length; i++) {
                CrackedColumn c = withHeats(heats[i]);
                c.set(2, 3);
                // makes the first heat 1 greater
                c.query(0, 10);
                Checks.due("bounds that were dropped", c.answer(8), 1);
                Checks.due("pieces", Checks.pieces(c), due[i]);
            }
        });
        edge(4, "becomes one piece with the first one's bound, with this sum as its heat", () -> {
            CrackedColumn c = withHeats(6, 1, 2, 7);
            c.set(2, 3);
            c.query(0, 10);
            Checks.due("pieces", Checks.pieces(c), "0:0u7 10:0u3 30:0u7");
            c.set(2, 2);
            c.query(0, 10);
            // the sums are told anew: 8 + 3 and 3 + 7
            Checks.due("pieces", Checks.pieces(c), "0:0u8 10:0u10");
        });
        edge(4, "it is sorted if both were sorted", () -> {
            String[] due = {"u", "u", "u", "s"};
            for (int sorted = 0; sorted < 4; sorted++) {
                CrackedColumn c = cracked("row 8 1;row 3 1;row 7 1;row 4 1;pieces 3;", 5);
                for (int piece = 0; piece < 2; piece++) {
                    if ((sorted >> piece & 1) == 1) {
                        c.sort(piece);
                    }
                }
                c.query(9, 10000);
                Checks.due("bounds that were dropped", c.answer(8), 1);
                Checks.due("piece 0 with the sorted ones " + sorted, Checks.pieces(c).substring(0, 5), "0:4" + due[sorted] + "0");
            }
        });
    }

    private static void queryCosts() {
        edge(4, "The cost of a query is the sum of all these costs.", () -> {
            CrackedColumn c = cracked("row 30 1;row 40 1;row 80 1;hot 1;", 60);
            c.insert(35, 1);
            c.insert(70, 1);
            c.delete(0);
            // merges of 2, 1 and 2; cracks of 2 and 2; 2 rows are read; 2 rows are sorted by 2
            Checks.due("query", c.query(32, 75), 3);
            Checks.due("merged, read, sorted", c.answer(5) + " " + c.answer(6) + " " + c.answer(7), "2 2 1");
            Checks.due("cost", c.answer(4), 2 + 1 + 3 + 2 + 3 + 2);
        });
        edge(4, "The answer has the number of rows, the sum of their values, their least and greatest key.", () -> {
            CrackedColumn c = Checks.loaded("row 9999 -99;row 0 -99;row 7 99;row 8 -1;row 7 99;");
            String[] due = {"5 -1 0 9999", "2 198 7 7", "3 197 7 8", "1 -99 0 0", "1 -99 9999 9999", "0 0 -1 -1"};
            int[][] spans = {{0, 10000}, {7, 8}, {1, 9999}, {0, 1}, {9, 10000}, {9, 10}};
            for (int i = 0; i < spans.length; i++) {
                c.query(spans[i][0], spans[i][1]);
                String got = c.answer(0) + " " + c.answer(1) + " " + c.answer(2) + " " + c.answer(3);
                Checks.due("answer of (" + spans[i][0] + ", " + spans[i][1] + ")", got, due[i]);
            }
        });
    }

    private static void keptQueries() {
        edge(4, "The latest 20 queries are kept, with their spans, numbers of rows and costs.", () -> {
            CrackedColumn c = Checks.loaded("row 0 1;");
            for (int low = 0; low < 19; low++) {
                c.query(low, low + 100);
            }
            Checks.due("19 queries", c.count(11) + " " + c.asked(18, 0), "19 0");
            c.query(19, 119);
            Checks.due("20 queries", c.count(11) + " " + c.asked(19, 0), "20 0");
            Checks.due("the first one", c.asked(19, 1) + " " + c.asked(19, 2) + " " + c.asked(19, 3), "100 1 2");
            c.query(20, 120);
            Checks.due("21 queries", c.count(11) + " " + c.asked(19, 0) + " " + c.asked(0, 0), "20 1 20");
            Checks.due("a 21st one", Edges.thrown(c, x -> x.asked(20, 0)), "IndexOutOfBoundsException");
        });
    }

    private static void totalCost() {
        edge(4, "All costs of queries, inserts, deletes, changed settings, crack and mergeAll are added up as the total cost.", () -> {
            CrackedColumn c = Checks.loaded(FIVE + "pending 2;");
            c.crack(20);
            Checks.due("behind crack", c.count(10), 5);
            c.query(20, 60);
            Checks.due("behind a query", c.count(10), 5 + 4 + 3);
            c.insert(5, 1);
            c.insert(6, 1);
            Checks.due("behind inserts without a merge", c.count(10), 12);
            c.insert(65, 1);
            Checks.due("behind an insert with a merge", c.count(10), 12 + 3);
            c.delete(0);
            Checks.due("behind a delete with a merge", c.count(10), 15 + 3);
            c.set(3, 1);
            Checks.due("behind a changed setting", c.count(10), 18 + 1);
            c.mergeAll();
            Checks.due("behind mergeAll", c.count(10), 19 + 2);
            c.sort(0);
            c.drop(1);
            c.costOf(0, 10000);
            c.asked(0, 4);
            c.scan(0, 10000, 0);
            Checks.due("behind what has no cost", c.count(10), 21);
        });
    }
}
