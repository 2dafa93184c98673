import java.util.NoSuchElementException;

/** Promises 22 to 28, sentence by sentence: settings and pieces. */
public final class PiecesEdgesTest {
    // keys 50 10 30 70 20
    private static final String FIVE = "row 50 1;row 10 2;row 30 3;row 70 4;row 20 5;";
    private static final int[] LEAST = {1, 2, 2, 1};
    private static final int[] MOST = {20, 120, 40, 30};
    private static final Class<?> ARGUMENT = IllegalArgumentException.class;
    private static final Class<?> INDEX = IndexOutOfBoundsException.class;
    private static final Class<?> STATE = IllegalStateException.class;
    private static final Class<?> NO_ELEMENT = NoSuchElementException.class;

    public static void main(String[] args) {
        set();
        setRanges();
        setRefused();
        sort();
        sortReturns();
        sortRefused();
        crack();
        crackRefused();
        evenCrackPiece();
        evenCrackKey();
        evenCrackRefused();
        drop();
        dropRefused();
        hottest();
        coldestPair();
        Edges.finish("Promise", 22, 28);
    }

    private static void edge(int promise, String words, Checks.Call test) {
        Edges.edge("Promise " + promise, words, test);
    }

    /** The pieces 0, 20 and 60 with the heats 0, 2 and 0; the second one is sorted. */
    private static CrackedColumn used() {
        CrackedColumn c = Checks.loaded(FIVE + "hot 2;pending 3;");
        c.query(20, 60);
        c.query(20, 60);
        c.insert(25, 1);
        c.delete(0);
        return c;
    }

    private static CrackedColumn cracked(String text, int... bounds) {
        CrackedColumn c = Checks.loaded(text);
        for (int at : bounds) {
            c.crack(at);
        }
        return c;
    }

    private static CrackedColumn withPieces(int pieces) {
        CrackedColumn c = Checks.loaded(FIVE);
        for (int at = 1; at < pieces; at++) {
            c.crack(at);
        }
        return c;
    }

    private static String text(int... keys) {
        StringBuilder text = new StringBuilder();
        for (int key : keys) {
            text.append("row ").append(key).append(" 1;");
        }
        return text.toString();
    }

    // ---- 22. set

    private static void set() {
        edge(22, "Changes a setting.", () -> {
            CrackedColumn c = new CrackedColumn();
            for (int what = 0; what < 4; what++) {
                c.set(what, 5 + what);
            }
            Checks.due("settings", c.count(6) + " " + c.count(7) + " " + c.count(8) + " " + c.count(9), "5 6 7 8");
        });
        edge(22, "Changing the most pieces does not drop bounds at once.", () -> {
            CrackedColumn c = withPieces(60);
            for (int to : new int[] {2, 40, 12}) {
                c.set(2, to);
                Checks.due("pieces and the last bound", c.count(4) + " " + c.piece(59, 0), "60 59");
            }
            c.set(2, 2);
            c.query(1, 2);
            Checks.due("pieces behind a query", c.count(4), 2);
        });
        edge(22, "Returns the previous number.", () -> {
            CrackedColumn c = new CrackedColumn();
            int[] first = {3, 16, 12, 8};
            for (int what = 0; what < 4; what++) {
                Checks.due("set to the least", c.set(what, LEAST[what]), first[what]);
                Checks.due("set to the most", c.set(what, MOST[what]), LEAST[what]);
                Checks.due("set to the same", c.set(what, MOST[what]), MOST[what]);
            }
        });
    }

    private static void setRanges() {
        edge(22, "`what`: 0: the hot limit; 1: the sort size; 2: the most pieces; 3: the most pending rows", () -> {
            // each setting at work
            CrackedColumn c = cracked(FIVE, 20, 60);
            c.set(0, 1);
            c.query(20, 60);
            Checks.due("a hot limit of 1 sorts at once", c.answer(7), 1);
            c = cracked(FIVE + "hot 1;", 20, 60);
            c.set(1, 2);
            c.query(20, 60);
            Checks.due("a sort size of 2 does not sort 3 rows", c.answer(7), 0);
            c.set(2, 2);
            c.query(20, 60);
            Checks.due("most pieces of 2 drop a bound", c.answer(8), 1);
            c.insert(1, 1);
            c.insert(2, 1);
            c.set(3, 1);
            Checks.due("most pending rows of 1 merge one", Checks.pendingRows(c), "6");
        });
        edge(22, "`to`: a number in its range", () -> {
            for (int what = 0; what < 4; what++) {
                int one = what;
                for (int to : new int[] {LEAST[what], LEAST[what] + 1, MOST[what] - 1, MOST[what]}) {
                    CrackedColumn c = used();
                    c.set(what, to);
                    Checks.due("count behind set(" + what + ", " + to + ")", c.count(6 + what), to);
                }
                for (int to : new int[] {LEAST[what] - 1, MOST[what] + 1, -1, Integer.MIN_VALUE, Integer.MAX_VALUE}) {
                    Edges.refused(PiecesEdgesTest::used, "set(" + what + ", " + to + ")", ARGUMENT, x -> x.set(one, to));
                }
            }
        });
    }

    private static void setRefused() {
        edge(22, "Throws `IllegalArgumentException` if what or to is out of range", () -> {
            for (int what : new int[] {-1, 4, Integer.MIN_VALUE, Integer.MAX_VALUE}) {
                for (int to : new int[] {-1, 0, 5}) {
                    Edges.refused(PiecesEdgesTest::used, "set(" + what + ", " + to + ")", ARGUMENT, x -> x.set(what, to));
                }
            }
        });
    }

    // ---- 23. sort

    private static void sort() {
        edge(23, "Sorts a piece, whatever its heat and size are (without cost).", () -> {
            StringBuilder text = new StringBuilder();
            for (int row = 0; row < 120; row++) {
                text.append("row").append(10 - row % 10 - 1).append(" 1;");
            }
            CrackedColumn c = Checks.loaded(text + "size 2;hot 20;");
            c.sort(0);
            Checks.due("pieces of 120 rows", Checks.pieces(c), "0:120s0");
            Checks.due("rows with a greater key than the one behind", c.piece(0, 5), 0);
            Checks.due("the ends", c.entry(0) + " " + c.entry(11) + " " + c.entry(12) + " " + c.entry(119), "9 119 8 110");
            Checks.due("total cost", c.count(10), 0);
            c = cracked(text(5), 5, 6);
            for (int piece = 0; piece < 3; piece++) {
                c.sort(piece);
            }
            Checks.due("pieces of 0, 1 and 0 rows", Checks.pieces(c), "0:0s0 5:1s0 6:0s0");
            c = cracked(text(9, 3, 8, 2, 7, 1), 3, 8);
            c.sort(1);
            Checks.due("the pieces beside it stay", Checks.pieces(c), "0:2u0 3:2s0 8:2u0");
            Checks.due("entries", Checks.entries(c), "3 5 1 4 0 2");
            c.sort(2);
            Checks.due("entries", Checks.entries(c), "3 5 1 4 2 0");
        });
        edge(23, "`piece`: number of a piece", () -> {
            CrackedColumn c = withPieces(60);
            c.sort(59);
            Checks.due("the last of 60", c.piece(59, 4) + " " + c.piece(58, 4), "1 0");
            c.sort(0);
            Checks.due("the first of 60", c.piece(0, 4) + " " + c.piece(1, 4), "1 0");
        });
    }

    private static void sortReturns() {
        edge(23, "Returns how many of its rows have another place then.", () -> {
            int[][] keys = {{}, {5}, {5, 5}, {5, 6}, {6, 5}, {6, 5, 4}, {5, 6, 4}, {4, 6, 5}, {5, 5, 5, 5},
                {6, 5, 6, 5}, {5, 6, 5, 6}};
            int[] due = {0, 0, 0, 0, 2, 2, 3, 2, 0, 4, 2};
            for (int i = 0; i < keys.length; i++) {
                Checks.due("sort of case " + i, Checks.loaded(text(keys[i])).sort(0), due[i]);
            }
            CrackedColumn c = Checks.loaded(FIVE);
            Checks.due("sort(0)", c.sort(0), 4);
            Checks.due("sort(0) of what is sorted", c.sort(0), 0);
            c = cracked(text(9, 3, 8, 2, 7, 1), 5);
            // 3 2 1 | 9 8 7, and those of the other piece do not count
            Checks.due("sort(0)", c.sort(0), 2);
            Checks.due("sort(1)", c.sort(1), 2);
            c = cracked(text(9, 3, 8, 2, 7, 1), 5);
            Checks.due("sort(1)", c.sort(1), 2);
            Checks.due("sort(0)", c.sort(0), 2);
        });
    }

    private static void sortRefused() {
        edge(23, "Throws `IndexOutOfBoundsException` if the piece does not exist", () -> {
            Edges.allowed(PiecesEdgesTest::used, "sort(2)", x -> x.sort(2));
            for (int piece : new int[] {3, -1, 60, 62, Integer.MIN_VALUE, Integer.MAX_VALUE}) {
                Edges.refused(PiecesEdgesTest::used, "sort(" + piece + ")", INDEX, x -> x.sort(piece));
            }
            Edges.refused(CrackedColumn::new, "sort(1) of one piece", INDEX, x -> x.sort(1));
        });
    }

    // ---- 24. crack

    private static void crack() {
        edge(24, "Cracks at a number (section 2); no bound is dropped by this.", () -> {
            CrackedColumn c = Checks.loaded(FIVE + "pieces 2;");
            for (int at = 1; at < 60; at++) {
                c.crack(at);
                Checks.due("pieces", c.count(4), at + 1);
            }
        });
        edge(24, "`at`: 0 to 10000", () -> {
            Checks.due("crack(0)", used().crack(0), 0);
            Checks.due("crack(1)", used().crack(1), 1);
            Checks.due("crack(9999)", used().crack(9999), 1);
            Checks.due("crack(10000)", used().crack(10000), 1);
        });
        edge(24, "Returns the cost.", () -> {
            CrackedColumn c = used();
            int before = c.count(10);
            // a sorted piece of 3, and one of 1 that is not
            Checks.due("crack(30)", c.crack(30), 2);
            Checks.due("crack(70)", c.crack(70), 1);
            Checks.due("crack(70) at a bound", c.crack(70), 0);
            Checks.due("crack(65) of no rows", c.crack(65), 0);
            Checks.due("total cost", c.count(10), before + 3);
        });
    }

    private static void crackRefused() {
        edge(24, "Throws `IllegalArgumentException` if at is out of range", () -> {
            for (int at : new int[] {-1, 10001, Integer.MIN_VALUE, Integer.MAX_VALUE}) {
                Edges.refused(PiecesEdgesTest::used, "crack(" + at + ")", ARGUMENT, x -> x.crack(at));
                Edges.refused(() -> withPieces(60), "crack(" + at + ") of 60 pieces", ARGUMENT, x -> x.crack(at));
            }
        });
        edge(24, "Throws `IllegalStateException` if there are 60 pieces or more", () -> {
            // the last piece has the key 70 alone
            Checks.due("crack of 58 pieces", withPieces(58).crack(9999), 1);
            CrackedColumn c = withPieces(59);
            Checks.due("crack of 59 pieces", c.crack(9999), 1);
            Checks.due("pieces", c.count(4), 60);
            Edges.refused(() -> withPieces(60), "crack(9999) of 60 pieces", STATE, x -> x.crack(9999));
            c.drop(3);
            Checks.due("crack behind a drop", c.crack(9998), 1);
        });
        edge(24, "(also if there is a piece with this bound)", () -> {
            for (int at : new int[] {0, 1, 30, 59}) {
                Edges.refused(() -> withPieces(60), "crack(" + at + ") of 60 pieces", STATE, x -> x.crack(at));
            }
            for (int at : new int[] {0, 1, 30, 58}) {
                Checks.due("crack(" + at + ") of 59 pieces", withPieces(59).crack(at), 0);
            }
        });
    }

    // ---- 25. evenCrack

    private static void even(String call, CrackedColumn c, int due) {
        String before = Checks.lists(c);
        Checks.due("evenCrack of " + call, c.evenCrack(), due);
        Checks.due("lists behind evenCrack", Checks.lists(c), before);
    }

    private static void evenCrackPiece() {
        edge(25, "in the piece that is not sorted and has the most rows", () -> {
            even("the last piece", cracked(text(1, 2, 11, 12, 13), 10), 12);
            even("a piece in the middle", cracked(text(1, 2, 11, 12, 13, 21), 10, 20), 12);
            even("the first piece", cracked(text(1, 2, 3, 11, 12), 10), 2);
            CrackedColumn c = cracked(text(1, 2, 3, 11, 12, 21), 10, 20);
            c.sort(0);
            even("a piece beside a greater sorted one", c, 12);
            c.sort(2);
            even("a piece between sorted ones", c, 12);
            // rows with a pending delete stand in the piece, inserted ones do not
            c = cracked(text(1, 2, 3, 11, 12), 10);
            c.delete(0);
            c.delete(1);
            c.insert(13, 1);
            c.insert(13, 1);
            even("pieces with pending rows", c, 2);
            c.mergeAll();
            even("pieces with merged rows", c, 13);
        });
        edge(25, "(of several the first one)", () -> {
            even("two pieces of 2 rows", cracked(text(1, 2, 11, 12), 10), 2);
            even("two pieces of 2 rows behind one of 1", cracked(text(1, 11, 12, 21, 22), 10, 20), 12);
            CrackedColumn c = cracked(text(1, 2, 11, 12, 21, 22), 10, 20);
            c.sort(0);
            even("two pieces of 2 rows behind a sorted one", c, 12);
        });
    }

    private static void evenCrackKey() {
        edge(25, "of all keys of its rows that are greater than its bound", () -> {
            even("keys 0 and 1", Checks.loaded(text(0, 0, 0, 1)), 1);
            even("a key that is the bound, and one next to it", cracked(text(5, 5, 5, 5, 6), 5), 6);
            even("the greatest key", Checks.loaded(text(0, 0, 9999)), 9999);
            Edges.refused(() -> Checks.loaded(text(0, 0)), "evenCrack of keys 0", NO_ELEMENT, x -> x.evenCrack());
        });
        edge(25, "the one for which the number of its rows with less keys and the number of the others differ least", () -> {
            // 1 and 4, 3 and 2
            even("keys 10 20 20 30 30", Checks.loaded(text(10, 20, 20, 30, 30)), 30);
            // 0 and 5, 4 and 1
            even("keys 10 10 10 10 30", Checks.loaded(text(10, 10, 10, 10, 30)), 30);
            even("keys 10 30 30 30 30", Checks.loaded(text(10, 30, 30, 30, 30)), 30);
            even("keys 40 30 20 10", Checks.loaded(text(40, 30, 20, 10)), 30);
            even("one row", Checks.loaded(text(10)), 10);
            even("rows with the same key", Checks.loaded(text(10, 10, 10)), 10);
            CrackedColumn full = Checks.loaded("row1 1;".repeat(59) + "row2 1;" + "row3 1;".repeat(60));
            Checks.due("evenCrack of 120 rows", full.evenCrack(), 3);
        });
        edge(25, "Returns the key, of several the least one.", () -> {
            // 1 and 2, 2 and 1, whatever the order of the rows is
            even("keys 10 20 30", Checks.loaded(text(10, 20, 30)), 20);
            even("keys 30 20 10", Checks.loaded(text(30, 20, 10)), 20);
            even("keys 30 10 20", Checks.loaded(text(30, 10, 20)), 20);
            // 0 and 2, 2 and 0 do not both exist; 1 and 4, 4 and 1 do
            even("keys 10 20 20 20 30", Checks.loaded(text(10, 20, 20, 20, 30)), 20);
            even("keys 30 20 20 20 10", Checks.loaded(text(30, 20, 20, 20, 10)), 20);
        });
        edge(25, "Tells where a crack would be the most even one", () -> {
            CrackedColumn c = Checks.loaded(text(10, 20, 30, 40));
            c.crack(c.evenCrack());
            Checks.due("pieces", Checks.pieces(c), "0:2u0 30:2u0");
        });
    }

    private static void evenCrackRefused() {
        edge(25, "Throws `NoSuchElementException` if all pieces are sorted", () -> {
            Edges.refused(() -> {
                CrackedColumn c = Checks.loaded(FIVE);
                c.sort(0);
                return c;
            }, "evenCrack of one sorted piece", NO_ELEMENT, x -> x.evenCrack());
            Edges.refused(() -> {
                CrackedColumn c = cracked(FIVE, 20, 60);
                for (int piece = 0; piece < 3; piece++) {
                    c.sort(piece);
                }
                return c;
            }, "evenCrack of three sorted pieces", NO_ELEMENT, x -> x.evenCrack());
            CrackedColumn c = cracked(FIVE, 20, 60);
            c.sort(0);
            c.sort(1);
            even("the only piece that is not sorted", c, 70);
        });
        edge(25, "or that piece has no such key", () -> {
            Edges.refused(CrackedColumn::new, "evenCrack without rows", NO_ELEMENT, x -> x.evenCrack());
            // smaller pieces ahead and behind that have one are no help
            Edges.refused(() -> cracked(text(1, 5, 5), 5), "evenCrack of keys that are the bound", NO_ELEMENT,
                x -> x.evenCrack());
            Edges.refused(() -> cracked(text(5, 5, 20), 5, 10), "evenCrack of keys that are the bound ahead of others",
                NO_ELEMENT, x -> x.evenCrack());
            Edges.refused(() -> {
                CrackedColumn c = cracked(text(1, 2), 5);
                c.sort(0);
                return c;
            }, "evenCrack of an empty piece beside a sorted one", NO_ELEMENT, x -> x.evenCrack());
        });
    }

    // ---- 26. drop

    private static void drop() {
        edge(26, "Drops the bound of a piece: it becomes one piece with the piece before it (as in step 5 of a query).", () -> {
            CrackedColumn c = used();
            Checks.due("pieces", Checks.pieces(c), "0:1u0 20:3s2 60:1u0");
            c.drop(2);
            Checks.due("pieces behind drop(2)", Checks.pieces(c), "0:1u0 20:4u2");
            Checks.due("entries", Checks.entries(c), "1 4 2 0 3");
            String[] due = {"u", "u", "u", "s"};
            for (int sorted = 0; sorted < 4; sorted++) {
                c = cracked(FIVE, 30);
                for (int piece = 0; piece < 2; piece++) {
                    if ((sorted >> piece & 1) == 1) {
                        c.sort(piece);
                    }
                }
                c.drop(1);
                Checks.due("pieces with the sorted ones " + sorted, Checks.pieces(c), "0:5" + due[sorted] + "0");
            }
            c = cracked("hot 20;", 10, 20);
            c.query(0, 20);
            c.query(10, 20);
            c.drop(1);
            Checks.due("heats", Checks.pieces(c), "0:0u3 20:0u0");
            Checks.due("total cost", c.count(10), 0);
            c = withPieces(60);
            c.drop(59);
            c.drop(1);
            String bounds = c.piece(0, 0) + " " + c.piece(1, 0) + " " + c.piece(57, 0);
            Checks.due("pieces and some of their bounds", c.count(4) + ": " + bounds, "58: 0 2 58");
        });
        edge(26, "`piece`: number of a piece Returns the size of the new piece.", () -> {
            CrackedColumn c = cracked(FIVE, 10, 30, 60, 10000);
            Checks.due("pieces", Checks.pieces(c), "0:0u0 10:2u0 30:2u0 60:1u0 10000:0u0");
            Checks.due("drop(4)", c.drop(4), 1);
            Checks.due("drop(2)", c.drop(2), 4);
            Checks.due("drop(1)", c.drop(1), 4);
            Checks.due("drop(1)", c.drop(1), 5);
            Checks.due("drop of an empty piece", cracked("", 5).drop(1), 0);
        });
    }

    private static void dropRefused() {
        edge(26, "Throws `IndexOutOfBoundsException` if the piece does not exist", () -> {
            Edges.allowed(PiecesEdgesTest::used, "drop(2)", x -> x.drop(2));
            for (int piece : new int[] {3, -1, 60, 62, Integer.MIN_VALUE, Integer.MAX_VALUE}) {
                Edges.refused(PiecesEdgesTest::used, "drop(" + piece + ")", INDEX, x -> x.drop(piece));
            }
            Edges.refused(CrackedColumn::new, "drop(1) of one piece", INDEX, x -> x.drop(1));
        });
        edge(26, "Throws `IllegalStateException` if it is piece 0", () -> {
            Edges.refused(PiecesEdgesTest::used, "drop(0)", STATE, x -> x.drop(0));
            Edges.refused(CrackedColumn::new, "drop(0) of one piece", STATE, x -> x.drop(0));
            Edges.allowed(PiecesEdgesTest::used, "drop(1)", x -> x.drop(1));
        });
    }

    // ---- 27. hottest and 28. coldestPair

    /** The pieces 0, 10, 20, .. with these heats. */
    private static CrackedColumn withHeats(int... heats) {
        CrackedColumn c = Checks.loaded("hot 20;");
        for (int piece = 1; piece <= heats.length; piece++) {
            c.crack(piece * 10);
        }
        for (int piece = 0; piece < heats.length; piece++) {
            for (int i = 0; i < heats[piece]; i++) {
                c.query(piece * 10, piece * 10 + 10);
            }
        }
        c.drop(heats.length);
        return c;
    }

    private static void hottest() {
        edge(27, "Returns the piece with the greatest heat.", () -> {
            Checks.due("of one piece", new CrackedColumn().hottest(), 0);
            Checks.due("of 0 1", withHeats(0, 1).hottest(), 1);
            Checks.due("of 2 1", withHeats(2, 1).hottest(), 0);
            Checks.due("of 1 3 2", withHeats(1, 3, 2).hottest(), 1);
            Checks.due("of 1 2 3", withHeats(1, 2, 3).hottest(), 2);
            CrackedColumn c = withPieces(59);
            c.set(2, 40);
            c.undo();
            c.crack(10000);
            Checks.due("of 60 without heat", c.hottest(), 0);
        });
        edge(27, "Returns its number, of several the lowest one.", () -> {
            Checks.due("of 0 0", withHeats(0, 0).hottest(), 0);
            Checks.due("of 1 2 2", withHeats(1, 2, 2).hottest(), 1);
            Checks.due("of 3 1 3", withHeats(3, 1, 3).hottest(), 0);
            Checks.due("of 0 1 0 1", withHeats(0, 1, 0, 1).hottest(), 1);
        });
    }

    private static void coldestPair() {
        edge(28, "Returns the first piece of the pair of which a query would drop the bound, if there were too many pieces."
            + " Returns its number.", () -> {
            int[][] heats = {{0, 0}, {5, 0}, {1, 2, 3}, {3, 2, 1}, {2, 2, 2}, {4, 0, 1, 4}, {0, 3, 2, 1},
                {1, 4, 1, 4}, {2, 0, 2, 0}};
            int[] due = {0, 0, 0, 1, 0, 1, 0, 0, 0};
            for (int i = 0; i < heats.length; i++) {
                CrackedColumn c = withHeats(heats[i]);
                Checks.due("coldestPair of case " + i, c.coldestPair(), due[i]);
                Checks.due("heats behind it", Checks.pieces(c, 3, 3), Checks.pieces(withHeats(heats[i]), 3, 3));
            }
            Checks.due("of 60 pieces", withPieces(60).coldestPair(), 0);
            CrackedColumn c = withHeats(4, 4, 1, 0);
            Checks.due("of the last two", c.coldestPair(), 2);
            c.set(2, 3);
            c.query(0, 10);
            Checks.due("what a query drops", Checks.pieces(c), "0:0u5 10:0u4 20:0u1");
        });
        edge(28, "Throws `NoSuchElementException` if there is one piece alone", () -> {
            Edges.refused(CrackedColumn::new, "coldestPair of one piece", NO_ELEMENT, x -> x.coldestPair());
            Edges.refused(() -> {
                CrackedColumn c = cracked(FIVE, 30);
                c.drop(1);
                return c;
            }, "coldestPair behind a drop", NO_ELEMENT, x -> x.coldestPair());
            Checks.due("coldestPair of two pieces", cracked(FIVE, 30).coldestPair(), 0);
        });
    }
}
