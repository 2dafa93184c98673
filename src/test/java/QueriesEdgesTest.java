import java.util.NoSuchElementException;
import java.util.function.Supplier;

/** Promises 11 to 18, sentence by sentence: queries, their answers, those that are kept, and what looks without a change. */
public final class QueriesEdgesTest {
    // keys 50 10 30 70 20
    private static final String FIVE = "row 50 1;row 10 2;row 30 3;row 70 4;row 20 5;";
    private static final int[] OUTSIDE = {-1, Integer.MIN_VALUE, Integer.MAX_VALUE, 100};
    private static final Class<?> ARGUMENT = IllegalArgumentException.class;
    private static final Class<?> INDEX = IndexOutOfBoundsException.class;
    private static final Class<?> NO_ELEMENT = NoSuchElementException.class;

    public static void main(String[] args) {
        query();
        answerNumbers();
        answerPieces();
        answerStays();
        answerRefused();
        askedNumbers();
        askedNow();
        askedRefused();
        nearest();
        nearestOfSeveral();
        nearestOfNone();
        spansOfLooks();
        costOf();
        costOfChangesNothing();
        scan();
        scanRefused();
        mean();
        meanRefused();
        ordered();
        orderedRefused();
        Edges.finish("Promise", 11, 18);
    }

    private static void edge(int promise, String words, Checks.Call test) {
        Edges.edge("Promise " + promise, words, test);
    }

    private static CrackedColumn used() {
        CrackedColumn c = Checks.loaded(FIVE + "hot 2;pending 3;");
        c.query(20, 60);
        c.query(20, 60);
        c.insert(25, 1);
        c.delete(0);
        return c;
    }

    private interface Span {
        void ask(CrackedColumn column, int low, int high);
    }

    private static String spoken(int[] span) {
        return "(" + span[0] + ", " + span[1] + ")";
    }

    private static void lows(String name, Span call) {
        for (int[] span : new int[][] {{0, 1}, {0, 10000}, {9999, 10000}}) {
            Edges.allowed(QueriesEdgesTest::used, name + spoken(span), x -> call.ask(x, span[0], span[1]));
        }
        int[][] bad = {{-1, 0}, {-1, 1}, {-1, 10000}, {10000, 10001}, {10000, 10000}, {Integer.MIN_VALUE, 5},
            {Integer.MAX_VALUE, 5}, {Integer.MAX_VALUE, Integer.MIN_VALUE}};
        refusedSpans(name, call, bad);
    }

    private static void highs(String name, Span call) {
        for (int[] span : new int[][] {{5, 6}, {5, 10000}, {9998, 9999}}) {
            Edges.allowed(QueriesEdgesTest::used, name + spoken(span), x -> call.ask(x, span[0], span[1]));
        }
        int[][] bad = {{5, 5}, {5, 4}, {5, 0}, {5, -1}, {0, 0}, {9999, 9999}, {0, 10001}, {9999, 10001}, {0, Integer.MAX_VALUE},
            {0, Integer.MIN_VALUE}};
        refusedSpans(name, call, bad);
    }

    private static void refusedSpans(String name, Span call, int[][] spans) {
        for (int[] span : spans) {
            Edges.refused(QueriesEdgesTest::used, name + spoken(span), ARGUMENT, x -> call.ask(x, span[0], span[1]));
        }
    }

    private static String answer(CrackedColumn c, int from, int to) {
        StringBuilder text = new StringBuilder();
        for (int what = from; what <= to; what++) {
            text.append(what > from ? " " : "").append(c.answer(what));
        }
        return text.toString();
    }

    // ---- 11. query

    private static void query() {
        edge(11, "Makes a query (section 4).", () -> {
            CrackedColumn c = Checks.loaded(FIVE);
            c.query(20, 60);
            Checks.due("pieces", Checks.pieces(c), "0:1u0 20:3u1 60:1u0");
        });
        edge(11, "`low`: 0 to 9999", () -> lows("query", (x, low, high) -> x.query(low, high)));
        edge(11, "`high`: low + 1 to 10000", () -> highs("query", (x, low, high) -> x.query(low, high)));
        edge(11, "Returns the number of rows of its answer.", () -> {
            Checks.due("of a column without rows", new CrackedColumn().query(0, 10000), 0);
            Checks.due("of 120 rows", Checks.loaded("row1 1;".repeat(120)).query(1, 2), 120);
            Checks.due("of none of 120 rows", Checks.loaded("row1 1;".repeat(120)).query(2, 10000), 0);
            CrackedColumn c = used();
            Checks.due("with pending rows", c.query(20, 60), 3);
            Checks.due("the answer's number of rows", c.answer(0), 3);
        });
        edge(11, "Throws `IllegalArgumentException` if low or high is out of range", () -> {
            Edges.refused(QueriesEdgesTest::used, "query(-1, 10001)", ARGUMENT, x -> x.query(-1, 10001));
            CrackedColumn c = used();
            String before = Checks.answers(c);
            Edges.thrown(c, x -> x.query(60, 60));
            Checks.due("answer behind a refused query", Checks.answers(c), before);
            Checks.due("kept queries behind a refused query", c.count(11), 2);
        });
    }

    // ---- 12. answer

    private static void answerNumbers() {
        edge(12, "Returns a number of the answer of the latest query", () -> {
            CrackedColumn c = Checks.loaded(FIVE);
            c.query(20, 60);
            c.query(70, 80);
            Checks.due("answer", answer(c, 0, 3), "1 4 70 70");
        });
        edge(12, "`what`: 0: the number of rows; 1: the sum of their values; 2: their least key; 3: their greatest key; 4: the cost"
            + " of the query", () -> {
            CrackedColumn c = Checks.loaded("row 9999 -99;row 0 -99;row 4 -1;");
            c.query(0, 10000);
            Checks.due("of all", answer(c, 0, 4), "3 -199 0 9999 6");
            c.query(0, 1);
            Checks.due("of one", answer(c, 0, 4), "1 -99 0 0 4");
            CrackedColumn full = Checks.loaded("row1 99;".repeat(112));
            for (int i = 0; i < 8; i++) {
                full.insert(1, 99);
            }
            full.query(1, 2);
            Checks.due("of 120 rows", answer(full, 0, 4), "120 11880 1 1 " + (8 + 120 + 120 + 120));
        });
        edge(12, "Returns the requested number; NONE for 2 and 3 without rows.", () -> {
            CrackedColumn c = Checks.loaded("row 5 1;");
            c.query(6, 7);
            Checks.due("answer", answer(c, 0, 3), "0 0 -1 -1");
            c.query(5, 6);
            Checks.due("answer", answer(c, 0, 3), "1 1 5 5");
            c.delete(0);
            c.query(5, 6);
            Checks.due("answer", answer(c, 0, 3), "0 0 -1 -1");
        });
    }

    private static void answerPieces() {
        edge(12, "5: the pending rows that it merged", () -> {
            CrackedColumn c = Checks.loaded("row 5 1;pending 30;");
            c.query(0, 10000);
            Checks.due("of none", c.answer(5), 0);
            for (int i = 0; i < 30; i++) {
                c.insert(i, 1);
            }
            c.query(40, 50);
            Checks.due("of none of 30", c.answer(5), 0);
            c.query(29, 50);
            Checks.due("of one", c.answer(5), 1);
            c.query(0, 10000);
            Checks.due("of all others", c.answer(5), 29);
        });
        edge(12, "6: the pieces that it read; 7: the pieces that it sorted; 8: the bounds that were dropped behind it", () -> {
            CrackedColumn c = Checks.loaded("row 5 1;row 6 1;row 7 1;row 8 1;row 5 1;hot 2;pieces 4;");
            c.query(5, 9);
            Checks.due("read, sorted, dropped", answer(c, 6, 8), "1 0 0");
            c.query(7, 9);
            Checks.due("read, sorted, dropped", answer(c, 6, 8), "1 0 0");
            Checks.due("pieces", Checks.pieces(c), "0:0u0 5:3u0 7:2u1 9:0u0");
            c.query(5, 9);
            Checks.due("read, sorted, dropped", answer(c, 6, 8), "2 1 0");
            c.query(5, 9);
            Checks.due("read, sorted, dropped", answer(c, 6, 8), "2 1 0");
            c.query(6, 8);
            Checks.due("read, sorted, dropped", answer(c, 6, 8), "2 0 2");
        });
    }

    private static void answerStays() {
        edge(12, "(as it was then)", () -> {
            CrackedColumn c = Checks.loaded(FIVE);
            c.query(20, 60);
            String due = Checks.answers(c);
            c.insert(30, 9);
            c.delete(0);
            c.mergeAll();
            c.crack(40);
            c.sort(0);
            c.drop(1);
            c.set(0, 1);
            c.costOf(0, 10000);
            c.asked(0, 4);
            c.scan(0, 10000, 1);
            c.mean(0, 10000);
            Checks.load(c, "row 1;");
            Checks.due("answer behind other calls", Checks.answers(c), due);
        });
    }

    private static void answerRefused() {
        edge(12, "Throws `IllegalArgumentException` for any other what", () -> {
            Edges.allowed(QueriesEdgesTest::used, "answer(8)", x -> x.answer(8));
            Edges.refused(QueriesEdgesTest::used, "answer(9)", ARGUMENT, x -> x.answer(9));
            for (int what : OUTSIDE) {
                Edges.refused(QueriesEdgesTest::used, "answer(" + what + ")", ARGUMENT, x -> x.answer(what));
                Edges.refused(CrackedColumn::new, "answer(" + what + ")", ARGUMENT, x -> x.answer(what));
            }
        });
        edge(12, "Throws `NoSuchElementException` if there was no query since the column was loaded", () -> {
            Supplier<CrackedColumn> loaded = () -> {
                CrackedColumn c = used();
                Checks.load(c, FIVE);
                return c;
            };
            for (int what = 0; what <= 8; what++) {
                int one = what;
                Edges.refused(CrackedColumn::new, "answer(" + what + ") of a new object", NO_ELEMENT, x -> x.answer(one));
                Edges.refused(loaded, "answer(" + what + ") behind load", NO_ELEMENT, x -> x.answer(one));
            }
            CrackedColumn c = loaded.get();
            c.query(9000, 9001);
            Checks.due("answer(0) behind a query", c.answer(0), 0);
            CrackedColumn never = new CrackedColumn();
            never.query(0, 1);
            Checks.due("answer(6) of a column that was never loaded", never.answer(6), 1);
        });
    }

    // ---- 13. asked

    private static void askedNumbers() {
        edge(13, "Returns a number of a query that is kept. `back`: 0 for the latest one, 1 for the one before, and so on", () -> {
            CrackedColumn c = new CrackedColumn();
            for (int i = 1; i <= 23; i++) {
                c.query(i, i + 100);
                for (int back = 0; back < Math.min(i, 20); back++) {
                    Checks.due("low of asked(" + back + ")", c.asked(back, 0), i - back);
                }
            }
        });
        edge(13, "`what`: 0: low; 1: high; 2: the number of rows of its answer; 3: its cost", () -> {
            CrackedColumn c = Checks.loaded(FIVE);
            c.query(0, 10000);
            c.query(9999, 10000);
            c.query(20, 60);
            String[] due = {"20 60 3 12", "9999 10000 0 5", "0 10000 5 10"};
            for (int back = 0; back < 3; back++) {
                String got = c.asked(back, 0) + " " + c.asked(back, 1) + " " + c.asked(back, 2) + " " + c.asked(back, 3);
                Checks.due("asked(" + back + ")", got, due[back]);
            }
            c.insert(30, 1);
            c.delete(0);
            c.mergeAll();
            Checks.due("rows and cost as they were then", c.asked(0, 2) + " " + c.asked(0, 3), "3 12");
        });
    }

    private static void askedNow() {
        edge(13, "4: the cost of a query with the same span now minus its cost then Returns the requested number.", () -> {
            CrackedColumn c = Checks.loaded(FIVE);
            c.query(20, 60);
            Checks.due("less: no crack any more", c.asked(0, 4), 3 - 12);
            c.query(20, 60);
            // the hot limit is met by a query now: 3 rows are sorted by 2
            Checks.due("more: it would sort", c.asked(0, 4), 9 - 3);
            Checks.due("of the one before", c.asked(1, 4), 9 - 12);
            c.query(20, 60);
            Checks.due("less: it is sorted", c.asked(0, 4), 3 - 9);
            c.query(20, 60);
            Checks.due("the same", c.asked(0, 4), 0);
            c.insert(30, 1);
            c.insert(30, 1);
            // merged into piece 1 of 3 twice, and two rows more
            Checks.due("more: it would merge", c.asked(0, 4), 3 + 4 + 2 - 3);
            String before = Checks.state(c);
            c.asked(0, 4);
            Checks.due("state behind asked", Checks.state(c), before);
        });
    }

    private static void askedRefused() {
        edge(13, "Throws `IndexOutOfBoundsException` if not so many are kept", () -> {
            Edges.allowed(QueriesEdgesTest::used, "asked(1, 4)", x -> x.asked(1, 4));
            for (int back : new int[] {2, -1, 20, 21, Integer.MIN_VALUE, Integer.MAX_VALUE}) {
                for (int what : new int[] {0, 4, 5}) {
                    Edges.refused(QueriesEdgesTest::used, "asked(" + back + ", " + what + ")", INDEX, x -> x.asked(back, what));
                }
            }
            Edges.refused(CrackedColumn::new, "asked(0, 4) without queries", INDEX, x -> x.asked(0, 4));
            CrackedColumn c = new CrackedColumn();
            for (int i = 0; i < 21; i++) {
                c.query(i, i + 1);
            }
            Checks.due("asked(19, 0)", c.asked(19, 0), 1);
            Checks.due("asked(20, 0) throws", Edges.thrown(c, x -> x.asked(20, 0)), "IndexOutOfBoundsException");
        });
        edge(13, "Throws `IllegalArgumentException` for any other what", () -> {
            Edges.refused(QueriesEdgesTest::used, "asked(0, 5)", ARGUMENT, x -> x.asked(0, 5));
            for (int what : OUTSIDE) {
                Edges.refused(QueriesEdgesTest::used, "asked(1, " + what + ")", ARGUMENT, x -> x.asked(1, what));
            }
        });
    }

    // ---- 14. nearest

    private static CrackedColumn asked(int... spans) {
        CrackedColumn c = new CrackedColumn();
        for (int i = 0; i < spans.length; i += 2) {
            c.query(spans[i], spans[i + 1]);
        }
        return c;
    }

    private static void nearest() {
        edge(14, "Returns the kept query whose span has the most keys in common with a span.", () -> {
            // a long span is no help where it has few keys in common
            CrackedColumn c = asked(0, 30, 20, 25, 40, 10000);
            Checks.due("nearest(20, 25)", c.nearest(20, 25), 1);
            Checks.due("nearest(19, 25)", c.nearest(19, 25), 2);
            Checks.due("nearest(25, 46)", c.nearest(25, 46), 0);
            Checks.due("nearest(25, 45)", c.nearest(25, 45), 0);
            Checks.due("nearest(25, 44)", c.nearest(25, 44), 2);
            Checks.due("nearest(0, 10000)", c.nearest(0, 10000), 0);
            Checks.due("nearest(9999, 10000)", c.nearest(9999, 10000), 0);
            Checks.due("nearest(0, 1)", c.nearest(0, 1), 2);
        });
        edge(14, "Returns its number, as for asked (0 for the latest one)", () -> {
            CrackedColumn c = new CrackedColumn();
            for (int i = 0; i < 21; i++) {
                c.query(10 * i, 10 * i + 10);
            }
            Checks.due("the latest one", c.nearest(200, 210), 0);
            Checks.due("the oldest one that is kept", c.nearest(10, 20), 19);
            Checks.due("one that is not kept any more", c.nearest(0, 10), -1);
        });
    }

    private static void nearestOfSeveral() {
        edge(14, "of several the least number", () -> {
            CrackedColumn c = asked(20, 60, 20, 60, 10, 70);
            Checks.due("nearest(20, 60)", c.nearest(20, 60), 0);
            c.query(30, 40);
            Checks.due("nearest(20, 60)", c.nearest(20, 60), 1);
            Checks.due("nearest(30, 40)", c.nearest(30, 40), 0);
            Checks.due("nearest(30, 41)", c.nearest(30, 41), 1);
        });
    }

    private static void nearestOfNone() {
        edge(14, "NONE if none has a key in common with it", () -> {
            Checks.due("without queries", new CrackedColumn().nearest(0, 10000), -1);
            CrackedColumn c = asked(20, 60);
            int[][] spans = {{0, 20}, {19, 20}, {60, 61}, {60, 10000}};
            for (int[] span : spans) {
                Checks.due("nearest(" + span[0] + ", " + span[1] + ")", c.nearest(span[0], span[1]), -1);
            }
            int[][] common = {{0, 21}, {20, 21}, {59, 60}, {59, 10000}};
            for (int[] span : common) {
                Checks.due("nearest(" + span[0] + ", " + span[1] + ")", c.nearest(span[0], span[1]), 0);
            }
        });
    }

    private static void spansOfLooks() {
        Span nearest = (x, low, high) -> x.nearest(low, high);
        Span costOf = (x, low, high) -> x.costOf(low, high);
        Span scan = (x, low, high) -> x.scan(low, high, 3);
        // a row that lives at each end, so that there is a mean
        Span mean = (x, low, high) -> {
            x.insert(0, 1);
            x.insert(5, 1);
            x.insert(9998, 1);
            x.insert(9999, 1);
            x.mean(low, high);
        };
        edge(14, "`low`: 0 to 9999", () -> lows("nearest", nearest));
        edge(14, "`high`: low + 1 to 10000", () -> highs("nearest", nearest));
        edge(14, "Throws `IllegalArgumentException` if low or high is out of range",
            () -> Edges.refused(CrackedColumn::new, "nearest(0, 10001)", ARGUMENT, x -> x.nearest(0, 10001)));
        edge(15, "`low`: 0 to 9999", () -> lows("costOf", costOf));
        edge(15, "`high`: low + 1 to 10000", () -> highs("costOf", costOf));
        edge(15, "Throws `IllegalArgumentException` if low or high is out of range",
            () -> Edges.refused(CrackedColumn::new, "costOf(0, 10001)", ARGUMENT, x -> x.costOf(0, 10001)));
        edge(16, "`low`: 0 to 9999", () -> lows("scan", scan));
        edge(16, "`high`: low + 1 to 10000", () -> highs("scan", scan));
        edge(17, "`low`: 0 to 9999", () -> meanSpans(mean, new int[][] {{0, 1}, {0, 10000}, {9999, 10000}}));
        edge(17, "`high`: low + 1 to 10000", () -> meanSpans(mean, new int[][] {{5, 6}, {5, 10000}, {9998, 9999}}));
    }

    private static void meanSpans(Span mean, int[][] spans) {
        for (int[] span : spans) {
            Edges.allowed(CrackedColumn::new, "mean" + spoken(span), x -> mean.ask(x, span[0], span[1]));
        }
        int[][] bad = {{-1, 1}, {10000, 10001}, {10000, 10000}, {5, 5}, {5, 4}, {0, 10001}, {9999, 10001},
            {Integer.MIN_VALUE, 5}, {Integer.MAX_VALUE, Integer.MIN_VALUE}, {0, Integer.MAX_VALUE}, {0, Integer.MIN_VALUE}};
        refusedSpans("mean", (x, low, high) -> x.mean(low, high), bad);
    }

    // ---- 15. costOf

    private static void costOf() {
        edge(15, "Tells what a query would cost now", () -> {
            int[][] spans = {{20, 60}, {0, 10000}, {0, 1}, {9999, 10000}, {25, 26}, {10, 71}, {21, 59}};
            for (int[] span : spans) {
                CrackedColumn c = used();
                int cost = c.costOf(span[0], span[1]);
                c.query(span[0], span[1]);
                Checks.due("costOf(" + span[0] + ", " + span[1] + ")", cost, c.answer(4));
            }
        });
        edge(15, "Returns its cost.", () -> {
            Checks.due("without rows", new CrackedColumn().costOf(0, 10000), 0);
            Checks.due("of cracks and rows", Checks.loaded(FIVE).costOf(20, 60), 5 + 4 + 3);
            Checks.due("with a sort", Checks.loaded(FIVE + "hot 1;").costOf(20, 60), 5 + 4 + 3 + 6);
            CrackedColumn c = used();
            // a merge into piece 1 of 3 and one out of it, 3 rows that are sorted already
            Checks.due("with merges", c.costOf(20, 60), 2 + 2 + 3);
            CrackedColumn sixty = Checks.loaded(FIVE);
            for (int at = 1; at < 60; at++) {
                sixty.crack(at * 100);
            }
            // 5 rows of the piece 0 are cracked at 5 and at 15, one is read
            Checks.due("with 62 pieces", sixty.costOf(5, 15), 5 + 5 + 1);
            Checks.due("pieces behind it", sixty.count(4), 60);
        });
    }

    private static void costOfChangesNothing() {
        edge(15, "nothing changes", () -> {
            for (int[] span : new int[][] {{20, 60}, {22, 33}, {0, 10000}}) {
                Edges.alike("costOf" + spoken(span), () -> {
                    CrackedColumn c = used();
                    c.costOf(span[0], span[1]);
                    c.costOf(span[0], span[1]);
                    return c;
                }, QueriesEdgesTest::used);
            }
        });
    }

    // ---- 16. scan

    private static String scans(CrackedColumn c, int low, int high) {
        return c.scan(low, high, 0) + " " + c.scan(low, high, 1) + " " + c.scan(low, high, 2) + " " + c.scan(low, high, 3);
    }

    private static void scan() {
        edge(16, "Looks through all rows that live, without the index; nothing changes.", () -> {
            CrackedColumn c = used();
            // 50 is deleted, but pending; 25 is inserted, but pending
            Checks.due("scan", scans(c, 20, 60), "3 9 20 30");
            c.mergeAll();
            Checks.due("scan behind mergeAll", scans(c, 20, 60), "3 9 20 30");
            Edges.alike("scan", () -> {
                CrackedColumn looked = used();
                looked.scan(20, 60, 3);
                looked.scan(0, 10000, 1);
                return looked;
            }, QueriesEdgesTest::used);
        });
        edge(16, "`what`: 0: the number of rows with keys in the span; 1: the sum of their values; 2: the least key; 3: the greatest"
            + " key", () -> {
            CrackedColumn c = Checks.loaded("row 0 -99;row 19 1;row 20 2;row 59 4;row 60 8;row 9999 99;");
            Checks.due("scan(20, 60)", scans(c, 20, 60), "2 6 20 59");
            Checks.due("scan(19, 61)", scans(c, 19, 61), "4 15 19 60");
            Checks.due("scan(0, 1)", scans(c, 0, 1), "1 -99 0 0");
            Checks.due("scan(9999, 10000)", scans(c, 9999, 10000), "1 99 9999 9999");
            Checks.due("scan(0, 10000)", scans(c, 0, 10000), "6 15 0 9999");
        });
        edge(16, "Returns the requested number; NONE for 2 and 3 without rows.", () -> {
            Checks.due("scan(21, 59)", scans(Checks.loaded("row 20 2;row 59 4;"), 21, 59), "0 0 -1 -1");
            Checks.due("scan(0, 10000) without rows", scans(new CrackedColumn(), 0, 10000), "0 0 -1 -1");
            CrackedColumn c = Checks.loaded("row 5 1;");
            c.delete(0);
            Checks.due("scan(0, 10000) without a row that lives", scans(c, 0, 10000), "0 0 -1 -1");
        });
    }

    private static void scanRefused() {
        edge(16, "Throws `IllegalArgumentException` if low, high or what is out of range", () -> {
            Edges.allowed(QueriesEdgesTest::used, "scan(0, 10000, 0)", x -> x.scan(0, 10000, 0));
            Edges.refused(QueriesEdgesTest::used, "scan(0, 10000, 4)", ARGUMENT, x -> x.scan(0, 10000, 4));
            Edges.refused(QueriesEdgesTest::used, "scan(-1, 10000, 4)", ARGUMENT, x -> x.scan(-1, 10000, 4));
            Edges.refused(CrackedColumn::new, "scan(0, 10000, 4)", ARGUMENT, x -> x.scan(0, 10000, 4));
            for (int what : OUTSIDE) {
                Edges.refused(QueriesEdgesTest::used, "scan(0, 10000, " + what + ")", ARGUMENT, x -> x.scan(0, 10000, what));
            }
        });
    }

    // ---- 17. mean

    private static void means(CrackedColumn c, int low, int high, float due) {
        float got = c.mean(low, high);
        if (got != due) {
            Checks.tell("mean(" + low + ", " + high + ") answered " + got + ", due is " + due);
        }
    }

    private static void mean() {
        edge(17, "Returns the mean of the values of all rows that live with keys in a span", () -> {
            CrackedColumn c = used();
            means(c, 20, 60, 3f);
            c.insert(60, 20);
            c.insert(19, 20);
            means(c, 20, 60, 3f);
            c.delete(5);
            means(c, 20, 60, 4f);
            c.mergeAll();
            means(c, 20, 60, 4f);
        });
        edge(17, "Returns the mean.", () -> means(Checks.loaded("row 7 7;"), 7, 8, 7f));
        edge(17, "their sum and their number, converted to float and divided.", () -> {
            means(Checks.loaded("row 0 -99;row 9999 99;"), 0, 10000, 0f);
            means(Checks.loaded("row 0 -99;row 9999 99;"), 0, 1, -99f);
            means(Checks.loaded("row 0 -99;row 9999 99;"), 9999, 10000, 99f);
            means(Checks.loaded("row 1 1;row 1 1;row 1 -4;"), 1, 2, -2f / 3f);
            means(Checks.loaded("row 1 1;row 1 0;row 1 0;"), 1, 2, 1f / 3f);
            means(Checks.loaded("row1 1;".repeat(119) + "row1 2;"), 1, 2, 121f / 120f);
            means(Checks.loaded("row1 99;".repeat(112)), 1, 2, 99f);
            means(Checks.loaded("row1 0;".repeat(118) + "row1 1;"), 1, 2, 1f / 119f);
        });
    }

    private static void meanRefused() {
        edge(17, "Throws `IllegalArgumentException` if low or high is out of range", () -> {
            Edges.refused(CrackedColumn::new, "mean(0, 10001) without rows", ARGUMENT, x -> x.mean(0, 10001));
            Edges.refused(QueriesEdgesTest::used, "mean(60, 20)", ARGUMENT, x -> x.mean(60, 20));
        });
        edge(17, "Throws `NoSuchElementException` if there are none", () -> {
            Edges.refused(CrackedColumn::new, "mean(0, 10000)", NO_ELEMENT, x -> x.mean(0, 10000));
            Edges.refused(QueriesEdgesTest::used, "mean(71, 10000)", NO_ELEMENT, x -> x.mean(71, 10000));
            Edges.refused(QueriesEdgesTest::used, "mean(50, 51) of a pending delete", NO_ELEMENT, x -> x.mean(50, 51));
            Edges.allowed(QueriesEdgesTest::used, "mean(70, 71)", x -> x.mean(70, 71));
            Edges.allowed(QueriesEdgesTest::used, "mean(25, 26) of a pending insert", x -> x.mean(25, 26));
        });
    }

    // ---- 18. ordered

    private static String ordered(CrackedColumn c) {
        StringBuilder text = new StringBuilder();
        for (int place = 0; place < c.count(1); place++) {
            text.append(place > 0 ? " " : "").append(c.ordered(place));
        }
        return text.toString();
    }

    private static void ordered() {
        edge(18, "Returns the row that lives at a place in the order of the keys", () -> {
            Checks.due("of loaded rows", ordered(Checks.loaded(FIVE)), "1 4 2 0 3");
            Checks.due("with pending rows", ordered(used()), "1 4 5 2 3");
            Checks.due("of the ends", ordered(Checks.loaded("row 9999 1;row 0 1;")), "1 0");
        });
        edge(18, "of several with the same key by their numbers; nothing changes.", () -> {
            CrackedColumn c = Checks.loaded("row 5 9;row 4 9;row 5 1;row 4 1;");
            c.insert(5, 1);
            c.insert(4, 1);
            Checks.due("ordered", ordered(c), "1 3 5 0 2 4");
            c.delete(3);
            Checks.due("ordered behind a delete", ordered(c), "1 5 0 2 4");
            Edges.alike("ordered", () -> {
                CrackedColumn looked = used();
                ordered(looked);
                return looked;
            }, QueriesEdgesTest::used);
        });
        edge(18, "`place`: 0 for the least key Returns the number of the row.", () -> {
            Checks.due("the least key", used().ordered(0), 1);
            CrackedColumn full = Checks.loaded("row2 1;".repeat(119) + "row1 1;");
            Checks.due("the least key of 120", full.ordered(0), 119);
            Checks.due("the greatest key of 120", full.ordered(119), 118);
        });
    }

    private static void orderedRefused() {
        edge(18, "Throws `IndexOutOfBoundsException` if there are not so many", () -> {
            Edges.allowed(QueriesEdgesTest::used, "ordered(4)", x -> x.ordered(4));
            for (int place : new int[] {5, 6, -1, 119, 120, Integer.MIN_VALUE, Integer.MAX_VALUE}) {
                Edges.refused(QueriesEdgesTest::used, "ordered(" + place + ")", INDEX, x -> x.ordered(place));
            }
            Edges.refused(CrackedColumn::new, "ordered(0) without rows", INDEX, x -> x.ordered(0));
            Edges.refused(() -> {
                CrackedColumn c = Checks.loaded("row 5 1;");
                c.delete(0);
                return c;
            }, "ordered(0) without a row that lives", INDEX, x -> x.ordered(0));
        });
    }
}
