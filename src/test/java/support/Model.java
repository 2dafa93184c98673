import java.nio.charset.StandardCharsets;
import java.util.ArrayDeque;
import java.util.ArrayList;
import java.util.Comparator;
import java.util.Deque;
import java.util.List;
import java.util.NoSuchElementException;
import java.util.regex.Matcher;
import java.util.regex.Pattern;

/** The document once more, in lists and copies: what CrackedColumn answers in random runs is held against it. */
final class Model {
    private static final class Row {
        final int number;
        final int key;
        final int value;
        int state;

        Row(int number, int key, int value, int state) {
            this.number = number;
            this.key = key;
            this.value = value;
            this.state = state;
        }

        boolean lives() {
            return state < 2;
        }
    }

    private static final class Piece {
        int bound;
        int heat;
        boolean sorted;
        List<Integer> rows = new ArrayList<>();

        Piece(int bound, int heat, boolean sorted) {
            this.bound = bound;
            this.heat = heat;
            this.sorted = sorted;
        }
    }

    private static final class State {
        List<Row> rows = new ArrayList<>();
        List<Piece> pieces = new ArrayList<>(List.of(new Piece(0, 0, false)));
        List<Integer> pending = new ArrayList<>();
        List<int[]> asked = new ArrayList<>();
        int[] settings = {3, 16, 12, 8};
        int[] answer = null;
        int total = 0;

        State copy() {
            State copy = new State();
            for (Row row : rows) {
                copy.rows.add(new Row(row.number, row.key, row.value, row.state));
            }
            copy.pieces.clear();
            for (Piece piece : pieces) {
                Piece other = new Piece(piece.bound, piece.heat, piece.sorted);
                other.rows.addAll(piece.rows);
                copy.pieces.add(other);
            }
            copy.pending.addAll(pending);
            copy.asked.addAll(asked);
            copy.settings = settings.clone();
            copy.answer = answer;
            copy.total = total;
            return copy;
        }
    }

    private static final int[] LEAST = {1, 2, 2, 1};
    private static final int[] MOST = {20, 120, 40, 30};

    private State now = new State();
    private final Deque<State> before = new ArrayDeque<>();
    private String buffer = "";
    private String written = "";
    private int errorPosition = -1;

    // ---- setup

    int append(int a, int b, int c, int d, int e) {
        if (buffer.length() > 880) {
            throw new IllegalStateException();
        }
        byte[] bytes = java.nio.ByteBuffer.allocate(20).putInt(a).putInt(b).putInt(c).putInt(d).putInt(e).array();
        buffer += new String(bytes, StandardCharsets.ISO_8859_1);
        return buffer.length();
    }

    int load(int length) {
        allow(length >= 0 && length <= buffer.length());
        String text = buffer.substring(0, length);
        buffer = "";
        State read = new State();
        int[] error = read(text, read);
        errorPosition = error == null ? -1 : error[1];
        if (error != null) {
            return error[0];
        }
        change();
        now = read;
        return read.rows.size();
    }

    private static final Pattern TOKEN = Pattern.compile(" *([a-z]+|[0-9]+|[^ a-z0-9])");

    private int[] read(String text, State into) {
        List<String> tokens = new ArrayList<>();
        List<Integer> places = new ArrayList<>();
        Matcher matcher = TOKEN.matcher(text);
        while (matcher.lookingAt()) {
            tokens.add(matcher.group(1));
            places.add(matcher.start(1));
            matcher.region(matcher.end(), text.length());
        }
        tokens.add("");
        places.add(text.length());
        int at = 0;
        while (!tokens.get(at).isEmpty()) {
            int what = List.of("hot", "size", "pieces", "pending").indexOf(tokens.get(at));
            if (tokens.get(at).equals("row")) {
                if (into.rows.size() == 120) {
                    return new int[] {-4, places.get(at)};
                }
                boolean minus = tokens.size() > at + 2 && tokens.get(at + 2).equals("-");
                int valueAt = minus ? at + 3 : at + 2;
                int code = number(tokens, at + 1, 0, 9999);
                if (code != 0) {
                    return new int[] {code, places.get(at + 1)};
                }
                code = number(tokens, valueAt, 0, 99);
                if (code != 0) {
                    return new int[] {code, places.get(valueAt)};
                }
                int value = Integer.parseInt(tokens.get(valueAt));
                Row row = new Row(into.rows.size(), Integer.parseInt(tokens.get(at + 1)), minus ? -value : value, 0);
                into.pieces.get(0).rows.add(row.number);
                into.rows.add(row);
                at = valueAt + 1;
            } else if (what >= 0) {
                int code = number(tokens, at + 1, LEAST[what], MOST[what]);
                if (code != 0) {
                    return new int[] {code, places.get(at + 1)};
                }
                into.settings[what] = Integer.parseInt(tokens.get(at + 1));
                at += 2;
            } else {
                return new int[] {-2, places.get(at)};
            }
            if (!tokens.get(at).equals(";")) {
                return new int[] {-2, places.get(at)};
            }
            at++;
        }
        return null;
    }

    private static int number(List<String> tokens, int at, int least, int most) {
        String token = tokens.get(at);
        if (token.isEmpty() || !Character.isDigit(token.charAt(0)) || token.charAt(0) > '9') {
            return -2;
        }
        java.math.BigInteger number = new java.math.BigInteger(token);
        boolean in = number.compareTo(java.math.BigInteger.valueOf(least)) >= 0
            && number.compareTo(java.math.BigInteger.valueOf(most)) <= 0;
        return in ? 0 : -3;
    }

    int errorPosition() {
        return errorPosition;
    }

    int count(int what) {
        allow(what >= 0 && what <= 11);
        int[] counts = {now.rows.size(), living().size(), index().size(), now.pending.size(), now.pieces.size(),
            (int) now.pieces.stream().filter(p -> p.sorted).count(), now.settings[0], now.settings[1], now.settings[2],
            now.settings[3], now.total, now.asked.size()};
        return counts[what];
    }

    int row(int row, int what) {
        exists(row, now.rows.size());
        allow(what >= 0 && what <= 3);
        Row r = now.rows.get(row);
        return new int[] {r.key, r.value, r.state, index().indexOf(row)}[what];
    }

    int entry(int place) {
        List<Integer> index = index();
        exists(place, index.size());
        return index.get(place);
    }

    int piece(int piece, int what) {
        exists(piece, now.pieces.size());
        allow(what >= 0 && what <= 5);
        Piece p = now.pieces.get(piece);
        int first = now.pieces.subList(0, piece).stream().mapToInt(o -> o.rows.size()).sum();
        int greater = 0;
        for (int i = 1; i < p.rows.size(); i++) {
            if (key(p.rows.get(i - 1)) > key(p.rows.get(i))) {
                greater++;
            }
        }
        return new int[] {p.bound, first, p.rows.size(), p.heat, p.sorted ? 1 : 0, greater}[what];
    }

    int pieceOf(int key) {
        allow(key >= 0 && key <= 9999);
        return now.pieces.indexOf(pieceWith(key));
    }

    int pending(int place) {
        exists(place, now.pending.size());
        return now.pending.get(place);
    }

    // ---- queries

    int query(int low, int high) {
        span(low, high);
        change();
        int cost = 0;
        int merged = 0;
        for (int row : List.copyOf(now.pending)) {
            if (key(row) >= low && key(row) < high) {
                cost += merge(row);
                merged++;
            }
        }
        cost += crackAt(low);
        cost += crackAt(high);
        List<Piece> reads = new ArrayList<>(now.pieces);
        reads.removeIf(p -> p.bound < low || p.bound >= high);
        int[] found = tally(reads.stream().flatMap(p -> p.rows.stream()).map(now.rows::get).toList());
        cost += found[0];
        reads.forEach(p -> p.heat++);
        int sorted = 0;
        for (Piece p : reads) {
            int size = p.rows.size();
            if (!p.sorted && p.heat >= now.settings[0] && size >= 2 && size <= now.settings[1]) {
                cost += size * power(size);
                order(p);
                sorted++;
            }
        }
        int dropped = 0;
        while (now.pieces.size() > now.settings[2]) {
            join(coldest());
            dropped++;
        }
        now.total += cost;
        now.answer = new int[] {found[0], found[1], found[2], found[3], cost, merged, reads.size(), sorted, dropped};
        now.asked.add(0, new int[] {low, high, found[0], cost});
        if (now.asked.size() > 20) {
            now.asked.remove(20);
        }
        return found[0];
    }

    int answer(int what) {
        allow(what >= 0 && what <= 8);
        if (now.answer == null) {
            throw new NoSuchElementException();
        }
        return now.answer[what];
    }

    int asked(int back, int what) {
        exists(back, now.asked.size());
        allow(what >= 0 && what <= 4);
        int[] query = now.asked.get(back);
        return what < 4 ? query[what] : costOf(query[0], query[1]) - query[3];
    }

    int nearest(int low, int high) {
        span(low, high);
        int best = -1;
        long most = 0;
        for (int back = 0; back < now.asked.size(); back++) {
            int[] query = now.asked.get(back);
            long common = java.util.stream.IntStream.range(low, high)
                .filter(key -> key >= query[0] && key < query[1]).count();
            if (common > most) {
                most = common;
                best = back;
            }
        }
        return best;
    }

    int costOf(int low, int high) {
        span(low, high);
        Model other = new Model();
        other.now = now.copy();
        other.query(low, high);
        return other.answer(4);
    }

    int scan(int low, int high, int what) {
        span(low, high);
        allow(what >= 0 && what <= 3);
        return tally(livingIn(low, high))[what];
    }

    float mean(int low, int high) {
        span(low, high);
        int[] found = tally(livingIn(low, high));
        if (found[0] == 0) {
            throw new NoSuchElementException();
        }
        return (float) found[1] / (float) found[0];
    }

    int ordered(int place) {
        List<Row> rows = living();
        exists(place, rows.size());
        rows.sort(Comparator.comparingInt((Row r) -> r.key).thenComparingInt(r -> r.number));
        return rows.get(place).number;
    }

    // ---- rows that come and go

    int insert(int key, int value) {
        allow(key >= 0 && key <= 9999 && value >= -99 && value <= 99);
        fits(now.rows.size() < 120);
        change();
        Row row = new Row(now.rows.size(), key, value, 1);
        now.rows.add(row);
        now.pending.add(row.number);
        mergeOldest();
        return row.number;
    }

    int delete(int row) {
        exists(row, now.rows.size());
        fits(now.rows.get(row).lives());
        change();
        Row r = now.rows.get(row);
        if (r.state == 1) {
            r.state = 3;
            now.pending.remove((Integer) row);
        } else {
            r.state = 2;
            now.pending.add(row);
        }
        mergeOldest();
        return now.pending.size();
    }

    int mergeAll() {
        change();
        int cost = 0;
        while (!now.pending.isEmpty()) {
            cost += merge(now.pending.get(0));
        }
        now.total += cost;
        return cost;
    }

    // ---- settings and pieces

    int set(int what, int to) {
        allow(what >= 0 && what <= 3 && to >= LEAST[what] && to <= MOST[what]);
        change();
        int previous = now.settings[what];
        now.settings[what] = to;
        mergeOldest();
        return previous;
    }

    int sort(int piece) {
        exists(piece, now.pieces.size());
        change();
        Piece p = now.pieces.get(piece);
        List<Integer> rows = List.copyOf(p.rows);
        order(p);
        int moved = 0;
        for (int i = 0; i < rows.size(); i++) {
            moved += rows.get(i).equals(p.rows.get(i)) ? 0 : 1;
        }
        return moved;
    }

    int crack(int at) {
        allow(at >= 0 && at <= 10000);
        fits(now.pieces.size() < 60);
        change();
        int cost = crackAt(at);
        now.total += cost;
        return cost;
    }

    int evenCrack() {
        Piece most = null;
        for (Piece p : now.pieces) {
            if (!p.sorted && (most == null || p.rows.size() > most.rows.size())) {
                most = p;
            }
        }
        if (most == null) {
            throw new NoSuchElementException();
        }
        int best = -1;
        int least = Integer.MAX_VALUE;
        for (int key = most.bound + 1; key < 10000; key++) {
            int k = key;
            if (most.rows.stream().anyMatch(row -> key(row) == k)) {
                int less = (int) most.rows.stream().filter(row -> key(row) < k).count();
                int others = most.rows.size() - less;
                if (Math.abs(less - others) < least) {
                    least = Math.abs(less - others);
                    best = key;
                }
            }
        }
        if (best < 0) {
            throw new NoSuchElementException();
        }
        return best;
    }

    int drop(int piece) {
        exists(piece, now.pieces.size());
        fits(piece > 0);
        change();
        join(piece - 1);
        return now.pieces.get(piece - 1).rows.size();
    }

    int hottest() {
        int most = now.pieces.stream().mapToInt(p -> p.heat).max().getAsInt();
        for (int piece = 0; ; piece++) {
            if (now.pieces.get(piece).heat == most) {
                return piece;
            }
        }
    }

    int coldestPair() {
        if (now.pieces.size() == 1) {
            throw new NoSuchElementException();
        }
        return coldest();
    }

    // ---- texts and undo

    int writePieces() {
        List<String> texts = new ArrayList<>();
        for (Piece p : now.pieces) {
            texts.add(p.bound + ":" + p.rows.size() + (p.sorted ? "s" : "u") + p.heat);
        }
        written = String.join(" ", texts);
        return written.length();
    }

    int writtenByte(int index) {
        exists(index, written.length());
        return written.charAt(index);
    }

    int undo() {
        fits(!before.isEmpty());
        now = before.pop();
        return before.size();
    }

    private void change() {
        before.push(now.copy());
        if (before.size() > 8) {
            before.removeLast();
        }
    }

    // ---- what the terms say

    private int key(int row) {
        return now.rows.get(row).key;
    }

    private List<Row> living() {
        List<Row> rows = new ArrayList<>(now.rows);
        rows.removeIf(row -> !row.lives());
        return rows;
    }

    private List<Row> livingIn(int low, int high) {
        List<Row> rows = living();
        rows.removeIf(row -> row.key < low || row.key >= high);
        return rows;
    }

    private List<Integer> index() {
        List<Integer> index = new ArrayList<>();
        now.pieces.forEach(p -> index.addAll(p.rows));
        return index;
    }

    private static int[] tally(List<Row> rows) {
        return new int[] {rows.size(), rows.stream().mapToInt(r -> r.value).sum(),
            rows.stream().mapToInt(r -> r.key).min().orElse(-1), rows.stream().mapToInt(r -> r.key).max().orElse(-1)};
    }

    private static int power(int number) {
        int power = 0;
        for (int reached = 1; reached < number; reached *= 2) {
            power++;
        }
        return power;
    }

    private Piece pieceWith(int key) {
        Piece found = null;
        for (Piece p : now.pieces) {
            if (p.bound <= key) {
                found = p;
            }
        }
        return found;
    }

    private int crackAt(int b) {
        Piece p = pieceWith(b);
        if (p.bound == b) {
            return 0;
        }
        int cost = p.sorted ? power(p.rows.size() + 1) : p.rows.size();
        p.heat /= 2;
        Piece second = new Piece(b, p.heat, p.sorted);
        p.rows.stream().filter(row -> key(row) >= b).forEach(second.rows::add);
        p.rows.removeIf(row -> key(row) >= b);
        now.pieces.add(now.pieces.indexOf(p) + 1, second);
        return cost;
    }

    private int merge(int row) {
        now.pending.remove((Integer) row);
        Row r = now.rows.get(row);
        Piece p = pieceWith(r.key);
        if (r.state == 1) {
            p.rows.add(row);
            r.state = 0;
            if (p.sorted) {
                order(p);
            }
        } else {
            p.rows.remove((Integer) row);
            r.state = 3;
        }
        return 1 + now.pieces.size() - 1 - now.pieces.indexOf(p);
    }

    private void mergeOldest() {
        while (now.pending.size() > now.settings[3]) {
            now.total += merge(now.pending.get(0));
        }
    }

    private void order(Piece p) {
        p.rows.sort(Comparator.comparingInt((Integer row) -> key(row)).thenComparingInt(row -> row));
        p.sorted = true;
    }

    private int coldest() {
        int best = 0;
        for (int i = 1; i + 1 < now.pieces.size(); i++) {
            int sum = now.pieces.get(i).heat + now.pieces.get(i + 1).heat;
            if (sum < now.pieces.get(best).heat + now.pieces.get(best + 1).heat) {
                best = i;
            }
        }
        return best;
    }

    private void join(int piece) {
        Piece first = now.pieces.get(piece);
        Piece second = now.pieces.remove(piece + 1);
        first.rows.addAll(second.rows);
        first.heat += second.heat;
        first.sorted = first.sorted && second.sorted;
    }

    private static void allow(boolean right) {
        if (!right) {
            throw new IllegalArgumentException();
        }
    }

    private static void fits(boolean right) {
        if (!right) {
            throw new IllegalStateException();
        }
    }

    private static void exists(int index, int count) {
        if (index < 0 || index >= count) {
            throw new IndexOutOfBoundsException();
        }
    }

    private static void span(int low, int high) {
        allow(low >= 0 && low <= 9999 && high > low && high <= 10000);
    }
}
