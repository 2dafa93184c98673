import java.util.NoSuchElementException;

/** Promises 22 to 28: settings and pieces. */
public final class PiecesTest {
    // keys 50 10 30 70 20
    private static final String FIVE = "row 50 1;row 10 2;row 30 3;row 70 4;row 20 5;";

    public static void main(String[] args) {
        set();
        setMerges();
        setRefused();
        sort();
        crack();
        crackSortedPieces();
        crackRefused();
        evenCrack();
        evenCrackRefused();
        drop();
        dropRefused();
        hottest();
        coldestPair();
        Checks.finish();
    }

    private static void set() {
        CrackedColumn c = Checks.loaded(FIVE);
        int[] first = {3, 16, 12, 8};
        int[] least = {1, 2, 2, 1};
        int[] most = {20, 120, 40, 30};
        for (int what = 0; what < 4; what++) {
            Checks.due("set(" + what + ")", c.set(what, least[what]), first[what]);
            Checks.due("set(" + what + ")", c.set(what, most[what]), least[what]);
            Checks.due("count(" + (6 + what) + ")", c.count(6 + what), most[what]);
            Checks.due("set(" + what + ")", c.set(what, most[what] - 1), most[what]);
        }
        Checks.due("settings", c.count(6) + " " + c.count(7) + " " + c.count(8) + " " + c.count(9), "19 119 39 29");
        c.crack(20);
        c.crack(60);
        c.crack(65);
        c.set(2, 2);
        Checks.due("pieces behind a change of the most pieces", c.count(4), 4);
        Checks.due("undo", c.undo(), 7);
        Checks.due("the most pieces behind the undo", c.count(8), 39);
    }

    private static void setMerges() {
        CrackedColumn c = Checks.loaded(FIVE);
        c.crack(20);
        c.crack(60);
        c.insert(5, 1);
        c.delete(3);
        c.insert(25, 1);
        c.insert(15, 1);
        Checks.due("set(3, 4)", c.set(3, 4), 8);
        Checks.due("pending", Checks.pendingRows(c), "5 3 6 7");
        Checks.due("total cost", c.count(10), 9);
        Checks.due("set(3, 2)", c.set(3, 2), 4);
        Checks.due("pending", Checks.pendingRows(c), "6 7");
        // in the pieces 0 and 2 of 3
        Checks.due("total cost", c.count(10), 9 + 3 + 1);
        Checks.due("entries", Checks.entries(c), "1 5 0 2 4");
        Checks.due("set(3, 30)", c.set(3, 30), 2);
        Checks.due("pending", Checks.pendingRows(c), "6 7");
    }

    private static void setRefused() {
        int[][] bad = {{-1, 5}, {4, 5}, {-1, 0}, {4, 0}, {0, 0}, {0, 21}, {1, 1}, {1, 121}, {2, 1}, {2, 41}, {3, 0}, {3, 31},
            {Integer.MIN_VALUE, 5}, {Integer.MAX_VALUE, 5}, {0, Integer.MIN_VALUE}, {3, Integer.MAX_VALUE}};
        for (int[] call : bad) {
            Edges.refused(PiecesTest::oneInserted, "set(" + call[0] + ", " + call[1] + ")",
                IllegalArgumentException.class, c -> c.set(call[0], call[1]));
        }
    }

    private static CrackedColumn oneInserted() {
        CrackedColumn c = Checks.loaded(FIVE);
        c.insert(1, 1);
        return c;
    }

    private static void sort() {
        CrackedColumn c = Checks.loaded(FIVE);
        Checks.due("sort(0)", c.sort(0), 4);
        Checks.due("entries", Checks.entries(c), "1 4 2 0 3");
        Checks.due("pieces", Checks.pieces(c), "0:5s0");
        Checks.due("total cost", c.count(10), 0);
        Checks.due("sort(0) again", c.sort(0), 0);
        c = Checks.loaded("row 10 1;row 30 1;row 20 1;row 40 1;row 20 1;row 40 1;size 2;");
        c.crack(40);
        // 10 30 20 20 | 40 40
        Checks.due("sort(1)", c.sort(1), 0);
        Checks.due("pieces", Checks.pieces(c), "0:4u0 40:2s0");
        Checks.due("sort(0)", c.sort(0), 3);
        Checks.due("entries", Checks.entries(c), "0 2 4 1 3 5");
        Checks.due("pieces", Checks.pieces(c), "0:4s0 40:2s0");
        Checks.due("undo", c.undo(), 3);
        Checks.due("entries behind the undo", Checks.entries(c), "0 1 2 4 3 5");
        // the piece behind it stays as it is
        c.load(0);
        Checks.load(c, FIVE);
        c.crack(25);
        Checks.due("sort(0)", c.sort(0), 0);
        Checks.due("entries", Checks.entries(c), "1 4 0 2 3");
        Checks.due("sorted pieces", c.count(5), 1);
        c.crack(10);
        c.drop(1);
        Checks.due("undo", c.undo(), 7);
        for (int piece : new int[] {3, -1, Integer.MIN_VALUE, Integer.MAX_VALUE}) {
            Edges.refused(PiecesTest::threePieces, "sort(" + piece + ")", IndexOutOfBoundsException.class,
                d -> d.sort(piece));
        }
        CrackedColumn e = new CrackedColumn();
        Checks.due("sort of a piece without rows", e.sort(0), 0);
        Checks.due("pieces", Checks.pieces(e), "0:0s0");
        Checks.due("undo", e.undo(), 0);
        // a row with a lower number that comes in behind one with the same key
        CrackedColumn f = Checks.loaded("row 5 1;");
        f.insert(7, 1);
        f.insert(6, 1);
        f.insert(6, 1);
        f.query(7, 8);
        f.drop(2);
        f.drop(1);
        f.mergeAll();
        Checks.due("entries", Checks.entries(f), "0 1 2 3");
        Checks.due("sort(0)", f.sort(0), 3);
        Checks.due("entries", Checks.entries(f), "0 2 3 1");
    }

    private static CrackedColumn threePieces() {
        CrackedColumn c = Checks.loaded(FIVE);
        c.crack(25);
        c.crack(10);
        return c;
    }

    private static void crack() {
        CrackedColumn c = Checks.loaded(FIVE);
        c.query(0, 10000);
        c.query(0, 9999);
        Checks.due("pieces", Checks.pieces(c), "0:5u1 9999:0u0 10000:0u0");
        Checks.due("total cost", c.count(10), 10 + 10);
        Checks.due("crack(30)", c.crack(30), 5);
        Checks.due("total cost", c.count(10), 25);
        Checks.due("entries", Checks.entries(c), "1 4 0 2 3");
        Checks.due("pieces", Checks.pieces(c), "0:2u0 30:3u0 9999:0u0 10000:0u0");
        Checks.due("crack(30) again", c.crack(30), 0);
        Checks.due("crack(0)", c.crack(0), 0);
        Checks.due("crack(10000)", c.crack(10000), 0);
        Checks.due("crack(9998)", c.crack(9998), 3);
        Checks.due("crack(9997)", c.crack(9997), 3);
        Checks.due("pieces", Checks.pieces(c), "0:2u0 30:3u0 9997:0u0 9998:0u0 9999:0u0 10000:0u0");
        Checks.due("a crack that does nothing is a change", c.undo(), 7);
        CrackedColumn d = Checks.loaded(FIVE + "hot 20;pieces 2;");
        for (int i = 0; i < 5; i++) {
            d.query(20, 60);
        }
        Checks.due("pieces", Checks.pieces(d), "0:4u1 60:1u0");
        d.set(2, 3);
        for (int i = 0; i < 5; i++) {
            d.query(20, 60);
        }
        Checks.due("pieces", Checks.pieces(d), "0:1u0 20:3u5 60:1u0");
        d.set(2, 2);
        Checks.due("crack(50)", d.crack(50), 3);
        Checks.due("a crack drops no bound", Checks.pieces(d), "0:1u0 20:2u2 50:1u2 60:1u0");
        Checks.due("crack(20) at a bound", d.crack(20), 0);
        Checks.due("crack(10000)", d.crack(10000), 1);
    }

    private static void crackSortedPieces() {
        int[] sizes = {0, 1, 2, 3, 4, 6, 7, 8, 15, 16, 63, 64};
        int[] costs = {0, 1, 2, 2, 3, 3, 3, 4, 4, 5, 6, 7};
        for (int i = 0; i < sizes.length; i++) {
            CrackedColumn c = Checks.loaded("row 5 1;".repeat(sizes[i]));
            c.sort(0);
            Checks.due("crack of " + sizes[i] + " sorted rows", c.crack(6), costs[i]);
            Checks.due("pieces", Checks.pieces(c), "0:" + sizes[i] + "s0 6:0s0");
            Checks.due("total cost", c.count(10), costs[i]);
        }
    }

    private static void crackRefused() {
        for (int at : new int[] {-1, 10001, Integer.MIN_VALUE, Integer.MAX_VALUE}) {
            Edges.refused(PiecesTest::threePieces, "crack(" + at + ")", IllegalArgumentException.class,
                c -> c.crack(at));
        }
        CrackedColumn sixty = sixtyPieces();
        Checks.due("pieces", sixty.count(4), 60);
        Edges.refused(PiecesTest::sixtyPieces, "crack(100) of 60 pieces", IllegalStateException.class,
            c -> c.crack(100));
        Edges.refused(PiecesTest::sixtyPieces, "crack(7) at a bound of 60 pieces", IllegalStateException.class,
            c -> c.crack(7));
        Edges.refused(PiecesTest::sixtyPieces, "crack(10001) of 60 pieces", IllegalArgumentException.class,
            c -> c.crack(10001));
        sixty.drop(7);
        Checks.due("crack of 59 pieces", sixty.crack(7), 0);
        Checks.due("pieces", sixty.count(4), 60);
    }

    private static CrackedColumn sixtyPieces() {
        CrackedColumn c = Checks.loaded(FIVE);
        for (int at = 1; at <= 59; at++) {
            c.crack(at);
        }
        return c;
    }

    private static void even(String text, int... cracksAndDue) {
        CrackedColumn c = Checks.loaded(text);
        for (int i = 0; i + 1 < cracksAndDue.length; i++) {
            c.crack(cracksAndDue[i]);
        }
        String before = Checks.view(c);
        Checks.due("evenCrack of " + text, c.evenCrack(), cracksAndDue[cracksAndDue.length - 1]);
        Checks.due("all that is seen behind evenCrack", Checks.view(c), before);
    }

    private static void evenCrack() {
        // 2 and 3 rows with 30, 3 and 2 rows with 50
        even(FIVE, 30);
        even("row 4 1;row 3 1;row 2 1;row 1 1;", 3);
        even("row 5 1;row 5 1;row 5 1;row 9 1;row 7 1;", 7);
        even("row 9 1;row 9 1;row 9 1;row 5 1;", 9);
        even("row 5 1;row 5 1;", 5);
        // the key that is the bound itself is none
        even("row 0 1;row 0 1;row 0 1;row 9 1;row 9 1;row 9 1;row 9 1;row 9 1;row 9 1;row 9 1;row 9 1;", 9);
        even("row 5 1;row 5 1;row 5 1;row 5 1;row 5 1;row 8 1;row 9 1;", 5, 8);
        // of several pieces the one with the most rows, of several the first one
        even("row 1 1;row 2 1;row 11 1;row 12 1;row 13 1;", 10, 12);
        even("row 1 1;row 2 1;row 3 1;row 11 1;row 12 1;row 13 1;", 10, 2);
        even("row 1 1;row 2 1;row 3 1;row 4 1;row 11 1;row 12 1;row 13 1;", 10, 3);
        CrackedColumn c = Checks.loaded("row 1 1;row 2 1;row 3 1;row 11 1;row 12 1;");
        c.crack(10);
        c.sort(0);
        Checks.due("evenCrack beside a sorted piece", c.evenCrack(), 12);
        // rows with a pending delete stand in the index, inserted ones do not
        c = Checks.loaded("row 1 1;row 2 1;row 3 1;row 4 1;");
        c.delete(2);
        c.insert(9, 1);
        c.insert(9, 1);
        Checks.due("evenCrack with pending rows", c.evenCrack(), 3);
    }

    private static void evenCrackRefused() {
        CrackedColumn c = new CrackedColumn();
        Checks.refused(c, "evenCrack without rows", NoSuchElementException.class, () -> c.evenCrack());
        CrackedColumn d = Checks.loaded(FIVE);
        d.crack(30);
        d.sort(0);
        d.sort(1);
        Checks.refused(d, "evenCrack of sorted pieces", NoSuchElementException.class, () -> d.evenCrack());
        CrackedColumn e = Checks.loaded("row 0 1;row 0 2;row 0 3;row 10 1;row 20 1;");
        e.crack(5);
        Checks.refused(e, "evenCrack of keys that are the bound", NoSuchElementException.class, () -> e.evenCrack());
    }

    private static void drop() {
        CrackedColumn c = Checks.loaded(FIVE + "pieces 40;");
        c.query(20, 60);
        c.query(20, 60);
        c.query(60, 70);
        Checks.due("pieces", Checks.pieces(c), "0:1u0 20:3u2 60:0u1 70:1u0");
        long cost = c.count(10);
        Checks.due("drop(2)", c.drop(2), 3);
        Checks.due("pieces", Checks.pieces(c), "0:1u0 20:3u3 70:1u0");
        c.sort(0);
        c.sort(1);
        Checks.due("drop(2) of a piece that is not sorted", c.drop(2), 4);
        Checks.due("pieces", Checks.pieces(c), "0:1s0 20:4u3");
        c.sort(1);
        Checks.due("drop(1) of sorted pieces", c.drop(1), 5);
        Checks.due("pieces", Checks.pieces(c), "0:5s3");
        Checks.due("entries", Checks.entries(c), "1 4 2 0 3");
        Checks.due("a drop costs nothing", c.count(10), cost);
        Checks.due("undo", c.undo(), 7);
        Checks.due("pieces behind the undo", Checks.pieces(c), "0:1s0 20:4s3");
        // the first one not sorted, the second one sorted
        CrackedColumn d = Checks.loaded(FIVE);
        d.crack(30);
        d.sort(1);
        Checks.due("drop(1)", d.drop(1), 5);
        Checks.due("pieces", Checks.pieces(d), "0:5u0");
    }

    private static void dropRefused() {
        Edges.refused(PiecesTest::threePieces, "drop(0)", IllegalStateException.class, c -> c.drop(0));
        for (int piece : new int[] {3, -1, Integer.MIN_VALUE, Integer.MAX_VALUE}) {
            Edges.refused(PiecesTest::threePieces, "drop(" + piece + ")", IndexOutOfBoundsException.class,
                c -> c.drop(piece));
        }
        CrackedColumn d = new CrackedColumn();
        Checks.refused(d, "drop(0) of one piece", IllegalStateException.class, () -> d.drop(0));
        Checks.refused(d, "drop(1) of one piece", IndexOutOfBoundsException.class, () -> d.drop(1));
    }

    private static void hottest() {
        CrackedColumn c = Checks.loaded(FIVE);
        Checks.due("hottest of one piece", c.hottest(), 0);
        c.query(20, 60);
        Checks.due("hottest", c.hottest(), 1);
        c.query(60, 10000);
        Checks.due("hottest of two with the same heat", c.hottest(), 1);
        c.query(60, 10000);
        Checks.due("hottest", c.hottest(), 2);
        c.query(0, 20);
        c.query(0, 20);
        Checks.due("hottest of two with the same heat", c.hottest(), 0);
        Checks.due("pieces", Checks.pieces(c), "0:1u2 20:3u1 60:1u2 10000:0u0");
    }

    private static void coldestPair() {
        CrackedColumn c = Checks.loaded(FIVE);
        Checks.refused(c, "coldestPair of one piece", NoSuchElementException.class, () -> c.coldestPair());
        c.query(20, 60);
        Checks.due("coldestPair", c.coldestPair(), 0);
        c.query(0, 20);
        Checks.due("coldestPair", c.coldestPair(), 1);
        c.query(60, 65);
        Checks.due("pieces", Checks.pieces(c), "0:1u1 20:3u1 60:0u1 65:1u0");
        Checks.due("coldestPair", c.coldestPair(), 2);
        c.query(65, 70);
        Checks.due("pieces", Checks.pieces(c), "0:1u1 20:3u1 60:0u1 65:0u1 70:1u0");
        c.query(65, 70);
        Checks.due("coldestPair", c.coldestPair(), 0);
        Checks.due("undo behind coldestPair", c.undo(), 5);
    }
}
