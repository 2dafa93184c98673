import java.util.NoSuchElementException;
import java.util.function.Consumer;

/** Promises 11 to 18: queries, their answers, those that are kept, and what looks without a change. */
public final class QueriesTest {
    // keys 50 10 30 70 20
    private static final String FIVE = "row 50 1;row 10 2;row 30 3;row 70 4;row 20 5;";
    private static final int[][] BAD_SPANS = {{-1, 5}, {5, 5}, {5, 4}, {10000, 10001}, {10000, 10000}, {0, 10001},
        {9999, 10001}, {0, 0}, {Integer.MIN_VALUE, Integer.MIN_VALUE + 1}, {Integer.MAX_VALUE, Integer.MIN_VALUE},
        {0, Integer.MAX_VALUE}, {Integer.MIN_VALUE, 5}};

    public static void main(String[] args) {
        queryCracksAndReads();
        querySorts();
        querySortsBySize();
        queryCracksSortedPieces();
        queryMerges();
        queryMergesInTheirOrder();
        queryDropsBounds();
        queryDropsTwo();
        queryOfAll();
        queryBeyondSixtyPieces();
        queryRefused();
        answer();
        asked();
        askedKeepsTwenty();
        nearest();
        costOf();
        scan();
        mean();
        ordered();
        Checks.finish();
    }

    private static void ask(CrackedColumn c, int low, int high, String answers, String pieces, String entries) {
        String call = "query(" + low + ", " + high + ")";
        Checks.due(call, c.query(low, high), Integer.parseInt(answers.split(" ")[0]));
        Checks.due("answer of " + call, Checks.answers(c), answers);
        Checks.due("pieces behind " + call, Checks.pieces(c), pieces);
        Checks.due("entries behind " + call, Checks.entries(c), entries);
    }

    private static void queryCracksAndReads() {
        CrackedColumn c = Checks.loaded(FIVE);
        // cracks a piece of 5 and one of 4, and reads 3 rows
        ask(c, 20, 60, "3 9 20 50 12 0 1 0 0", "0:1u0 20:3u1 60:1u0", "1 0 2 4 3");
        ask(c, 20, 60, "3 9 20 50 3 0 1 0 0", "0:1u0 20:3u2 60:1u0", "1 0 2 4 3");
        // cracks a piece of 3 with heat 2 and one of 2 with heat 1
        ask(c, 25, 40, "1 3 30 30 6 0 1 0 0", "0:1u0 20:1u1 25:1u1 40:1u0 60:1u0", "1 4 2 0 3");
        Checks.due("total cost", c.count(10), 21);
        Checks.due("kept queries", c.count(11), 3);
        ask(c, 20, 25, "1 5 20 20 1 0 1 0 0", "0:1u0 20:1u2 25:1u1 40:1u0 60:1u0", "1 4 2 0 3");
        ask(c, 26, 27, "0 0 -1 -1 2 0 1 0 0", "0:1u0 20:1u2 25:0u0 26:0u1 27:1u0 40:1u0 60:1u0", "1 4 2 0 3");
    }

    private static void querySorts() {
        CrackedColumn c = Checks.loaded(FIVE);
        c.query(20, 60);
        c.query(20, 60);
        ask(c, 20, 60, "3 9 20 50 9 0 1 1 0", "0:1u0 20:3s3 60:1u0", "1 4 2 0 3");
        ask(c, 20, 60, "3 9 20 50 3 0 1 0 0", "0:1u0 20:3s4 60:1u0", "1 4 2 0 3");
        // a piece of one row is not sorted, however hot it is
        c = Checks.loaded(FIVE + "hot 1;");
        ask(c, 15, 25, "1 5 20 20 10 0 1 0 0", "0:1u0 15:1u1 25:3u0", "1 4 0 2 3");
        // a hot limit of 1, and two pieces that are sorted: 3 * 2 behind 1 + 3 rows and a crack of 3
        ask(c, 15, 10000, "4 13 20 70 13 0 2 1 0", "0:1u0 15:1u2 25:3s1 10000:0u0", "1 4 2 0 3");
        // two pieces that are sorted (2 * 1 each), and one that is as hot, but not read
        c = Checks.loaded(FIVE + "row 71 1;row 69 1;row 72 1;");
        c.query(0, 25);
        c.query(25, 60);
        c.query(60, 100);
        c.set(0, 1);
        Checks.due("pieces", Checks.pieces(c), "0:2u1 25:2u1 60:4u1 100:0u0");
        Checks.due("query", c.query(0, 60), 4);
        Checks.due("answer", Checks.answers(c), "4 11 10 50 8 0 2 2 0");
        Checks.due("pieces", Checks.pieces(c), "0:2s2 25:2s2 60:4u1 100:0u0");
        // of several rows with the same key the lower numbers go ahead
        c = Checks.loaded("hot 1;row 7 1;row 6 1;row 7 2;row 6 2;row 5 0;");
        ask(c, 0, 10000, "5 6 5 7 25 0 1 1 0", "0:5s1 10000:0u0", "4 1 3 0 2");
    }

    private static void querySortsBySize() {
        CrackedColumn c = Checks.loaded(FIVE + "hot 1;size 2;");
        ask(c, 20, 60, "3 9 20 50 12 0 1 0 0", "0:1u0 20:3u1 60:1u0", "1 0 2 4 3");
        c.set(1, 3);
        ask(c, 20, 60, "3 9 20 50 9 0 1 1 0", "0:1u0 20:3s2 60:1u0", "1 4 2 0 3");
        // 2 rows: 2 * 1, 4 rows: 4 * 2, 5 rows: 5 * 3, 8 rows: 8 * 3, 9 rows: 9 * 4
        int[] sizes = {2, 4, 5, 8, 9};
        int[] costs = {2, 8, 15, 24, 36};
        for (int i = 0; i < sizes.length; i++) {
            c = Checks.loaded("hot 1;" + "row 5 1;".repeat(sizes[i]));
            c.query(5, 6);
            // cracks at 5 and at 6 and the rows that are read cost the size each
            Checks.due("cost with " + sizes[i] + " rows", c.answer(4), 3 * sizes[i] + costs[i]);
        }
    }

    private static void queryCracksSortedPieces() {
        CrackedColumn c = Checks.loaded(FIVE);
        c.sort(0);
        // cracks 5 rows by 3 (8 is at least 6) and 4 rows by 3 (8 is at least 5), reads 2
        ask(c, 20, 40, "2 8 20 30 8 0 1 0 0", "0:1s0 20:2s1 40:2s0", "1 4 2 0 3");
        // both parts have half of the heat, rounded down
        c.query(20, 40);
        c.query(20, 40);
        ask(c, 30, 40, "1 3 30 30 3 0 1 0 0", "0:1s0 20:1s1 30:1s2 40:2s0", "1 4 2 0 3");
        // an empty piece costs nothing, one of 1 row 1
        ask(c, 41, 42, "0 0 -1 -1 4 0 1 0 0", "0:1s0 20:1s1 30:1s2 40:0s0 41:0s1 42:2s0", "1 4 2 0 3");
        ask(c, 40, 41, "0 0 -1 -1 0 0 1 0 0", "0:1s0 20:1s1 30:1s2 40:0s1 41:0s1 42:2s0", "1 4 2 0 3");
    }

    private static void queryMerges() {
        CrackedColumn c = Checks.loaded(FIVE);
        for (int i = 0; i < 3; i++) {
            c.query(20, 60);
        }
        c.query(30, 40);
        Checks.due("pieces", Checks.pieces(c), "0:1u0 20:1s1 30:1s1 40:1s0 60:1u0");
        c.insert(25, 7);
        c.insert(45, 8);
        c.delete(3);
        c.insert(20, 9);
        // merges rows 5 and 7 into piece 1 of 5 (4 each), cracks at 45 (1), reads 4 rows
        ask(c, 20, 45, "4 24 20 30 13 2 3 0 0", "0:1u0 20:3s2 30:1s2 40:0s1 45:1s0 60:1u0", "1 4 7 5 2 0 3");
        Checks.due("pending", Checks.pendingRows(c), "6 3");
        // takes row 3 out of the last piece (1), cracks at 70 (0, the piece is empty then) and at 71
        ask(c, 70, 71, "0 0 -1 -1 1 1 1 0 0", "0:1u0 20:3s2 30:1s2 40:0s1 45:1s0 60:0u0 70:0u1 71:0u0", "1 4 7 5 2 0");
        Checks.due("pending", Checks.pendingRows(c), "6");
        Checks.due("state of row 3", c.row(3, 2), 3);
    }

    private static void queryMergesInTheirOrder() {
        CrackedColumn c = Checks.loaded("row 5 1;row 6 1;");
        c.insert(9, 1);
        c.insert(3, 1);
        c.delete(0);
        c.insert(4, 1);
        // behind all rows of a piece that is not sorted, the oldest one first; 4 merges, 2 cracks of 4
        ask(c, 1, 10, "4 4 3 9 16 4 1 0 0", "0:0u0 1:4u1 10:0u0", "1 2 3 4");
    }

    private static void queryDropsBounds() {
        CrackedColumn c = Checks.loaded(FIVE + "pieces 2;");
        // sums of heats 1 and 1: the first pair
        ask(c, 20, 60, "3 9 20 50 12 0 1 0 1", "0:4u1 60:1u0", "1 0 2 4 3");
        // sums 1 + 1 and 1 + 0
        ask(c, 60, 10000, "1 4 70 70 2 0 1 0 1", "0:4u1 60:1u1", "1 0 2 4 3");
        // the crack at 10000 halves the heat each time; sums 1 + 1 and 1 + 0
        ask(c, 60, 10000, "1 4 70 70 2 0 1 0 1", "0:4u1 60:1u1", "1 0 2 4 3");
        // sums 0 + 1 and 1 + 1
        ask(c, 20, 60, "3 9 20 50 7 0 1 0 1", "0:4u1 60:1u1", "1 0 2 4 3");
        // sorted if both were sorted
        c.sort(0);
        c.sort(1);
        ask(c, 20, 60, "3 9 20 50 6 0 1 0 1", "0:4s1 60:1s1", "1 4 2 0 3");
    }

    private static void queryDropsTwo() {
        CrackedColumn c = Checks.loaded(FIVE + "pieces 2;");
        c.crack(35);
        c.sort(0);
        // 10 | 20 30 | 50 | 70 with heats 0 1 1 0: the sums 1 2 1, then 2 1
        ask(c, 20, 60, "3 9 20 50 7 0 2 0 2", "0:3s1 35:2u1", "1 4 2 0 3");
        Checks.due("pieces", c.count(4), 2);
    }

    private static void queryOfAll() {
        CrackedColumn c = Checks.loaded(FIVE);
        ask(c, 0, 10000, "5 15 10 70 10 0 1 0 0", "0:5u1 10000:0u0", "0 1 2 3 4");
        ask(c, 0, 1, "0 0 -1 -1 5 0 1 0 0", "0:0u1 1:5u0 10000:0u0", "0 1 2 3 4");
        ask(c, 9999, 10000, "0 0 -1 -1 5 0 1 0 0", "0:0u1 1:5u0 9999:0u1 10000:0u0", "0 1 2 3 4");
        c = Checks.loaded("row 0 -99;row 9999 -99;row 9999 99;");
        ask(c, 9999, 10000, "2 0 9999 9999 7 0 1 0 0", "0:1u0 9999:2u1 10000:0u0", "0 1 2");
        ask(c, 0, 1, "1 -99 0 0 2 0 1 0 0", "0:1u1 1:0u0 9999:2u1 10000:0u0", "0 1 2");
    }

    private static void queryBeyondSixtyPieces() {
        CrackedColumn c = Checks.loaded(FIVE + "pieces 40;");
        for (int at = 100; at < 6000; at += 100) {
            c.crack(at);
        }
        Checks.due("pieces", c.count(4), 60);
        c.query(150, 250);
        Checks.due("pieces", c.count(4), 40);
        Checks.due("dropped", c.answer(8), 22);
        Checks.due("read", c.answer(6), 2);
    }

    private static void queryRefused() {
        for (int[] span : BAD_SPANS) {
            int low = span[0];
            int high = span[1];
            String spoken = "(" + low + ", " + high + ")";
            refused("query" + spoken, c -> c.query(low, high));
            refused("nearest" + spoken, c -> c.nearest(low, high));
            refused("costOf" + spoken, c -> c.costOf(low, high));
            refused("scan" + spoken, c -> c.scan(low, high, 0));
            refused("mean" + spoken, c -> c.mean(low, high));
        }
    }

    private static void refused(String call, Consumer<CrackedColumn> run) {
        Edges.refused(QueriesTest::onceAsked, call, IllegalArgumentException.class, run);
    }

    private static CrackedColumn onceAsked() {
        CrackedColumn c = Checks.loaded(FIVE);
        c.query(20, 60);
        return c;
    }

    private static void answer() {
        CrackedColumn unasked = Checks.loaded(FIVE);
        Checks.refused(unasked, "answer(0)", NoSuchElementException.class, () -> unasked.answer(0));
        Checks.refused(unasked, "answer(8)", NoSuchElementException.class, () -> unasked.answer(8));
        CrackedColumn wrongly = Checks.loaded(FIVE);
        Checks.refused(wrongly, "answer(9)", IllegalArgumentException.class, () -> wrongly.answer(9));
        Checks.refused(wrongly, "answer(-1)", IllegalArgumentException.class, () -> wrongly.answer(-1));
        CrackedColumn c = onceAsked();
        c.delete(0);
        c.insert(30, 80);
        c.mergeAll();
        c.costOf(0, 100);
        c.scan(0, 100, 0);
        Checks.due("the answer as it was then", Checks.answers(c), "3 9 20 50 12 0 1 0 0");
        Checks.refused(c, "answer(9)", IllegalArgumentException.class, () -> c.answer(9));
        Checks.refused(c, "answer(-1)", IllegalArgumentException.class, () -> c.answer(-1));
    }

    private static void asked() {
        CrackedColumn c = Checks.loaded(FIVE);
        Checks.refused(c, "asked(0, 0)", IndexOutOfBoundsException.class, () -> c.asked(0, 0));
        c.query(20, 60);
        c.query(65, 9000);
        String[] due = {"65 9000 1 3 -2", "20 60 3 12 -9"};
        for (int back = 0; back < due.length; back++) {
            StringBuilder got = new StringBuilder();
            for (int what = 0; what <= 4; what++) {
                got.append(what > 0 ? " " : "").append(c.asked(back, what));
            }
            Checks.due("asked(" + back + ", 0 to 4)", got.toString(), due[back]);
        }
        c.insert(25, 1);
        // merged into piece 1 of 5: 4, and one row more
        Checks.due("asked(1, 4)", c.asked(1, 4), 8 - 12);
        CrackedColumn once = onceAsked();
        Checks.refused(once, "asked(1, 0)", IndexOutOfBoundsException.class, () -> once.asked(1, 0));
        Checks.refused(once, "asked(-1, 0)", IndexOutOfBoundsException.class, () -> once.asked(-1, 0));
        CrackedColumn again = onceAsked();
        Checks.refused(again, "asked(1, 5)", IndexOutOfBoundsException.class, () -> again.asked(1, 5));
        refused("asked(0, 5)", d -> d.asked(0, 5));
        refused("asked(0, -1)", d -> d.asked(0, -1));
    }

    private static void askedKeepsTwenty() {
        CrackedColumn c = new CrackedColumn();
        for (int low = 1; low <= 25; low++) {
            c.query(low, low + 1);
            Checks.due("kept queries", c.count(11), Math.min(low, 20));
        }
        Checks.due("the latest one", c.asked(0, 0), 25);
        Checks.due("the oldest one", c.asked(19, 0), 6);
        Checks.refused(c, "asked(20, 0)", IndexOutOfBoundsException.class, () -> c.asked(20, 0));
        c.undo();
        Checks.due("the oldest one behind an undo", c.asked(19, 0), 5);
    }

    private static void nearest() {
        CrackedColumn c = new CrackedColumn();
        Checks.due("nearest without queries", c.nearest(0, 10000), -1);
        c.query(20, 60);
        c.query(30, 40);
        c.query(0, 25);
        c.query(30, 40);
        int[][] due = {{20, 60, 3}, {30, 40, 0}, {31, 32, 0}, {22, 27, 3}, {21, 24, 1}, {0, 10000, 3}, {60, 10000, -1},
            {59, 10000, 3}, {24, 26, 3}, {24, 25, 1}, {0, 20, 1}, {29, 30, 3}, {39, 41, 3}};
        for (int[] row : due) {
            Checks.due("nearest(" + row[0] + ", " + row[1] + ")", c.nearest(row[0], row[1]), row[2]);
        }
        c.costOf(0, 10000);
        CrackedColumn d = c;
        Checks.load(d, FIVE);
        Checks.due("nearest of what load forgot", d.nearest(0, 10000), -1);
        d.undo();
        Checks.due("nearest(31, 32)", d.nearest(31, 32), 0);
        c.query(100, 101);
        Checks.due("nearest(100, 101)", c.nearest(100, 101), 0);
        Checks.due("nearest(99, 100)", c.nearest(99, 100), -1);
        Checks.due("nearest(101, 102)", c.nearest(101, 102), -1);
    }

    private static void costOf() {
        CrackedColumn c = Checks.loaded(FIVE + "hot 2;");
        int[][] due = {{20, 60, 12}, {0, 10000, 10}, {80, 90, 5}, {0, 5, 5}};
        for (int[] row : due) {
            String before = Checks.view(c);
            Checks.due("costOf(" + row[0] + ", " + row[1] + ")", c.costOf(row[0], row[1]), row[2]);
            Checks.due("all that is seen behind costOf", Checks.view(c), before);
        }
        c.query(20, 60);
        c.insert(40, 1);
        // a merge (2), 4 rows, and a sort of 4 rows (8)
        Checks.due("costOf(20, 60)", c.costOf(20, 60), 14);
        Checks.due("pending behind costOf", c.count(3), 1);
        c.query(20, 60);
        Checks.due("cost of the query", c.answer(4), 14);
        Checks.due("undo behind costOf", c.undo(), 3);
    }

    private static void scan() {
        CrackedColumn c = Checks.loaded(FIVE);
        c.insert(25, -50);
        c.insert(65, 60);
        c.delete(0);
        c.delete(6);
        String before = Checks.view(c);
        // living keys 10 30 70 20 25
        int[][] due = {{0, 10000, 5, -36, 10, 70}, {20, 30, 2, -45, 20, 25}, {20, 31, 3, -42, 20, 30},
            {50, 70, 0, 0, -1, -1}, {70, 71, 1, 4, 70, 70}, {0, 10, 0, 0, -1, -1}};
        for (int[] row : due) {
            for (int what = 0; what <= 3; what++) {
                Checks.due("scan(" + row[0] + ", " + row[1] + ", " + what + ")", c.scan(row[0], row[1], what), row[what + 2]);
            }
        }
        Checks.due("all that is seen behind scan", Checks.view(c), before);
        Checks.refused(c, "scan(0, 1, 4)", IllegalArgumentException.class, () -> c.scan(0, 1, 4));
        Checks.refused(c, "scan(0, 1, -1)", IllegalArgumentException.class, () -> c.scan(0, 1, -1));
        CrackedColumn d = Checks.loaded("row 0 1;row 9999 2;");
        Checks.due("scan(0, 10000, 1)", d.scan(0, 10000, 1), 3);
        Checks.due("scan(0, 9999, 1)", d.scan(0, 9999, 1), 1);
        Checks.due("scan(1, 10000, 2)", d.scan(1, 10000, 2), 9999);
    }

    private static void mean(CrackedColumn c, int low, int high, float due) {
        float got = c.mean(low, high);
        if (got != due) {
            Checks.tell("mean(" + low + ", " + high + ") answered " + got + ", due is " + due);
        }
    }

    private static void mean() {
        CrackedColumn c = Checks.loaded(FIVE);
        c.insert(25, -50);
        c.delete(0);
        String before = Checks.view(c);
        mean(c, 0, 10000, -36f / 5f);
        mean(c, 10, 31, -40f / 4f);
        mean(c, 20, 31, -42f / 3f);
        mean(c, 10, 21, 3.5f);
        mean(c, 26, 71, 7f / 2f);
        mean(Checks.loaded("row 1 1;row 1 0;row 1 0;"), 1, 2, 1f / 3f);
        mean(Checks.loaded("row 1 -1;row 1 -1;row 1 0;"), 1, 2, -2f / 3f);
        mean(Checks.loaded("row 1 1;row 1 -1;"), 0, 2, 0f);
        Checks.due("all that is seen behind mean", Checks.view(c), before);
        Checks.refused(c, "mean(50, 51)", NoSuchElementException.class, () -> c.mean(50, 51));
        Checks.refused(c, "mean(51, 51)", IllegalArgumentException.class, () -> c.mean(51, 51));
    }

    private static void ordered() {
        CrackedColumn c = Checks.loaded(FIVE);
        c.query(20, 60);
        c.insert(30, 1);
        c.insert(5, 1);
        c.insert(10, 1);
        c.delete(4);
        String before = Checks.view(c);
        int[] due = {6, 1, 7, 2, 5, 0, 3};
        for (int place = 0; place < due.length; place++) {
            Checks.due("ordered(" + place + ")", c.ordered(place), due[place]);
        }
        Checks.due("all that is seen behind ordered", Checks.view(c), before);
        CrackedColumn five = Checks.loaded(FIVE);
        Checks.refused(five, "ordered(5)", IndexOutOfBoundsException.class, () -> five.ordered(5));
        Checks.refused(five, "ordered(-1)", IndexOutOfBoundsException.class, () -> five.ordered(-1));
        CrackedColumn d = new CrackedColumn();
        Checks.refused(d, "ordered(0) without rows", IndexOutOfBoundsException.class, () -> d.ordered(0));
    }
}
