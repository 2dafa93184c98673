import java.util.NoSuchElementException;

/**
 * An index that is built by its own queries: they crack a column of keys into pieces, sort the hot
 * ones, merge the pending rows that they ask for and drop bounds when there are too many.
 */
public final class CrackedColumn {
    public static final int NONE = -1;
    public static final int SYNTAX_ERROR = -2;
    public static final int VALUE_ERROR = -3;
    public static final int TOO_MANY = -4;

    private static final int TEXT_ROOM = 900;
    private static final int APPENDED = 20;
    private static final int UNDO_ROOM = 8;
    private static final int ROW_ROOM = 120;
    private static final int KEY_END = 10000;
    private static final int MOST_VALUE = 99;

    private static final int CRACK_LIMIT = 60;
    // A query may add two pieces to those that crack has made before it drops bounds.
    private static final int PIECE_ROOM = CRACK_LIMIT + 2;
    // A bound, a colon, a size, a letter, any heat and a space.
    private static final int PIECE_TEXT = 5 + 1 + 3 + 1 + 10 + 1;
    // Of more pending rows than the setting allows there is never more than one.
    private static final int PENDING_ROOM = 31;

    private static final int INDEXED = 0;
    private static final int INSERTED = 1;
    private static final int LEAVING = 2;
    private static final int DELETED = 3;

    private static final int HOT = 0;
    private static final int SIZE = 1;
    private static final int PIECES = 2;
    private static final int PENDING = 3;
    private static final int SETTINGS = 4;
    private static final int[] FIRST_SETTING = {3, 16, 12, 8};
    private static final int[] LEAST_SETTING = {1, 2, 2, 1};
    private static final int[] MOST_SETTING = {20, 120, 40, 30};

    private static final int FOUND = 0;
    private static final int SUM = 1;
    private static final int LEAST = 2;
    private static final int GREATEST = 3;
    private static final int COST = 4;
    private static final int MERGED = 5;
    private static final int READ = 6;
    private static final int SORTED = 7;
    private static final int DROPPED = 8;
    private static final int ANSWERS = 9;

    private static final int KEPT_ROOM = 20;
    private static final int KEPT_COST = 3;
    private static final int KEPT_NUMBERS = 4;

    private final Bytes buffer = new Bytes(TEXT_ROOM);
    private final Reader reader = new Reader(buffer);
    private final Bytes written = new Bytes(PIECE_ROOM * PIECE_TEXT);
    private final Answer tally = new Answer();
    private final Column trial = new Column();
    private final Column[] saved = new Column[UNDO_ROOM];
    private Column column = new Column();
    private int savedCount = 0;
    private int errorAt = NONE;

    public CrackedColumn() {
        for (int i = 0; i < saved.length; i++) {
            saved[i] = new Column();
        }
    }

    // ---- setup

    public int append(int a, int b, int c, int d, int e) throws IllegalStateException {
        if (buffer.length + APPENDED > TEXT_ROOM) {
            throw new IllegalStateException();
        }
        buffer.putFour(a);
        buffer.putFour(b);
        buffer.putFour(c);
        buffer.putFour(d);
        buffer.putFour(e);
        return buffer.length;
    }

    public int load(int length) throws IllegalArgumentException {
        checkRange(length, 0, buffer.length);
        int read = reader.readColumn(length, trial);
        buffer.length = 0;
        errorAt = reader.errorAt;
        if (read >= 0) {
            remember();
            column.become(trial);
        }
        return read;
    }

    public int errorPosition() {
        return errorAt;
    }

    public int count(int what) throws IllegalArgumentException {
        switch (what) {
            case 0: return column.rows.count;
            case 1: return column.rows.livingCount();
            case 2: return column.index.size;
            case 3: return column.pendingCount;
            case 4: return column.index.pieces;
            case 5: return column.index.sortedPieces();
            case 6: return column.setting(HOT);
            case 7: return column.setting(SIZE);
            case 8: return column.setting(PIECES);
            case 9: return column.setting(PENDING);
            case 10: return column.totalCost;
            case 11: return column.kept.count;
            default: throw new IllegalArgumentException();
        }
    }

    public int row(int row, int what) throws IndexOutOfBoundsException, IllegalArgumentException {
        checkIndex(row, column.rows.count);
        switch (what) {
            case 0: return column.rows.keyOf(row);
            case 1: return column.rows.valueOf(row);
            case 2: return column.rows.stateOf(row);
            case 3: return column.index.placeOf(row);
            default: throw new IllegalArgumentException();
        }
    }

    public int entry(int place) throws IndexOutOfBoundsException {
        checkIndex(place, column.index.size);
        return column.index.rowAt(place);
    }

    public int piece(int piece, int what) throws IndexOutOfBoundsException, IllegalArgumentException {
        checkIndex(piece, column.index.pieces);
        switch (what) {
            case 0: return column.index.boundOf(piece);
            case 1: return column.index.startOf(piece);
            case 2: return column.index.sizeOf(piece);
            case 3: return column.index.heatOf(piece);
            case 4: return column.index.isSorted(piece) ? 1 : 0;
            case 5: return column.index.descentsOf(piece);
            default: throw new IllegalArgumentException();
        }
    }

    public int pieceOf(int key) throws IllegalArgumentException {
        checkRange(key, 0, KEY_END - 1);
        return column.index.pieceFor(key);
    }

    public int pending(int place) throws IndexOutOfBoundsException {
        checkIndex(place, column.pendingCount);
        return column.pendingAt(place);
    }

    // ---- queries

    public int query(int low, int high) throws IllegalArgumentException {
        checkSpan(low, high);
        remember();
        column.ask(low, high);
        return column.answer.numberAt(FOUND);
    }

    public int answer(int what) throws IllegalArgumentException, NoSuchElementException {
        checkRange(what, 0, ANSWERS - 1);
        if (!column.answer.given) {
            throw new NoSuchElementException();
        }
        return column.answer.numberAt(what);
    }

    public int asked(int back, int what) throws IndexOutOfBoundsException, IllegalArgumentException {
        checkIndex(back, column.kept.count);
        checkRange(what, 0, KEPT_NUMBERS);
        if (what < KEPT_NUMBERS) {
            return column.kept.numberAt(back, what);
        }
        int now = costNow(column.kept.numberAt(back, 0), column.kept.numberAt(back, 1));
        return now - column.kept.numberAt(back, KEPT_COST);
    }

    public int nearest(int low, int high) throws IllegalArgumentException {
        checkSpan(low, high);
        return column.kept.nearestTo(low, high);
    }

    public int costOf(int low, int high) throws IllegalArgumentException {
        checkSpan(low, high);
        return costNow(low, high);
    }

    public int scan(int low, int high, int what) throws IllegalArgumentException {
        checkSpan(low, high);
        checkRange(what, FOUND, GREATEST);
        column.rows.tallyLiving(low, high, tally);
        return tally.numberAt(what);
    }

    public float mean(int low, int high) throws IllegalArgumentException, NoSuchElementException {
        checkSpan(low, high);
        column.rows.tallyLiving(low, high, tally);
        int found = tally.numberAt(FOUND);
        if (found == 0) {
            throw new NoSuchElementException();
        }
        return (float) tally.numberAt(SUM) / (float) found;
    }

    public int ordered(int place) throws IndexOutOfBoundsException {
        checkIndex(place, column.rows.livingCount());
        return column.rows.livingAt(place);
    }

    // ---- rows that come and go

    public int insert(int key, int value) throws IllegalArgumentException, IllegalStateException {
        checkRange(key, 0, KEY_END - 1);
        checkRange(value, -MOST_VALUE, MOST_VALUE);
        if (column.rows.count >= ROW_ROOM) {
            throw new IllegalStateException();
        }
        remember();
        return column.insertRow(key, value);
    }

    public int delete(int row) throws IndexOutOfBoundsException, IllegalStateException {
        checkIndex(row, column.rows.count);
        if (!column.rows.lives(row)) {
            throw new IllegalStateException();
        }
        remember();
        column.deleteRow(row);
        return column.pendingCount;
    }

    public int mergeAll() {
        remember();
        return column.mergeEverything();
    }

    // ---- settings and pieces

    public int set(int what, int to) throws IllegalArgumentException {
        checkRange(what, 0, SETTINGS - 1);
        checkRange(to, leastSetting(what), mostSetting(what));
        remember();
        int previous = column.setting(what);
        column.changeSetting(what, to);
        return previous;
    }

    public int sort(int piece) throws IndexOutOfBoundsException {
        checkIndex(piece, column.index.pieces);
        remember();
        int moved = column.index.misplacedIn(piece);
        column.index.putInOrder(piece);
        return moved;
    }

    public int crack(int at) throws IllegalArgumentException, IllegalStateException {
        checkRange(at, 0, KEY_END);
        if (column.index.pieces >= CRACK_LIMIT) {
            throw new IllegalStateException();
        }
        remember();
        int cost = column.index.divideAt(at);
        column.totalCost += cost;
        return cost;
    }

    public int evenCrack() throws NoSuchElementException {
        int piece = column.index.largestUnsorted();
        int key = piece == NONE ? NONE : column.index.evenKeyOf(piece);
        if (key == NONE) {
            throw new NoSuchElementException();
        }
        return key;
    }

    public int drop(int piece) throws IndexOutOfBoundsException, IllegalStateException {
        checkIndex(piece, column.index.pieces);
        if (piece == 0) {
            throw new IllegalStateException();
        }
        remember();
        column.index.joinNext(piece - 1);
        return column.index.sizeOf(piece - 1);
    }

    public int hottest() {
        return column.index.hottestPiece();
    }

    public int coldestPair() throws NoSuchElementException {
        int piece = column.index.coldestOfPairs();
        if (piece == NONE) {
            throw new NoSuchElementException();
        }
        return piece;
    }

    // ---- texts and undo

    public int writePieces() {
        Index index = column.index;
        written.length = 0;
        for (int piece = 0; piece < index.pieces; piece++) {
            if (piece > 0) {
                written.put(' ');
            }
            written.putNumber(index.boundOf(piece));
            written.put(':');
            written.putNumber(index.sizeOf(piece));
            written.put(index.isSorted(piece) ? 's' : 'u');
            written.putNumber(index.heatOf(piece));
        }
        return written.length;
    }

    public int writtenByte(int index) throws IndexOutOfBoundsException {
        checkIndex(index, written.length);
        return written.byteAt(index);
    }

    public int undo() throws IllegalStateException {
        if (savedCount <= 0 || savedCount > UNDO_ROOM) {
            throw new IllegalStateException();
        }
        savedCount--;
        Column before = saved[savedCount];
        saved[savedCount] = column;
        column = before;
        return savedCount;
    }

    /** Keeps the column as it is, ahead of a change that is sure to succeed. */
    private void remember() {
        if (savedCount >= UNDO_ROOM) {
            forgetOldest();
        }
        saved[savedCount].become(column);
        savedCount++;
    }

    private void forgetOldest() {
        Column oldest = saved[0];
        for (int i = 1; i < UNDO_ROOM; i++) {
            saved[i - 1] = saved[i];
        }
        // The oldest one's arrays are used again, so that a change makes no objects.
        saved[UNDO_ROOM - 1] = oldest;
        savedCount = UNDO_ROOM - 1;
    }

    private int costNow(int low, int high) {
        trial.become(column);
        trial.ask(low, high);
        return trial.answer.numberAt(COST);
    }

    private static void checkIndex(int index, int count) {
        if (index < 0 || index >= count) {
            throw new IndexOutOfBoundsException();
        }
    }

    private static void checkRange(int number, int least, int most) {
        if (number < least || number > most) {
            throw new IllegalArgumentException();
        }
    }

    private static void checkSpan(int low, int high) {
        checkRange(low, 0, KEY_END - 1);
        checkRange(high, low + 1, KEY_END);
    }

    private static boolean isSetting(int what) {
        return what >= 0 && what < SETTINGS;
    }

    private static int firstSetting(int what) {
        return isSetting(what) ? FIRST_SETTING[what] : 0;
    }

    private static int leastSetting(int what) {
        return isSetting(what) ? LEAST_SETTING[what] : 0;
    }

    private static int mostSetting(int what) {
        return isSetting(what) ? MOST_SETTING[what] : 0;
    }

    /** The least c with 2 to the power c at least the number. */
    private static int powerFor(int number) {
        int power = 0;
        while (power < 30 && (1 << power) < number) {
            power++;
        }
        return power;
    }

    private static void copyAll(int[] from, int[] to) {
        System.arraycopy(from, 0, to, 0, Math.min(from.length, to.length));
    }

    /** A text of bytes with a fixed room. */
    private static final class Bytes {
        private final byte[] bytes;
        int length = 0;

        Bytes(int room) {
            bytes = new byte[Math.max(room, 0)];
        }

        void put(int value) {
            if (length >= 0 && length < bytes.length) {
                bytes[length] = (byte) value;
                length++;
            }
        }

        void putFour(int word) {
            for (int shift = 24; shift >= 0; shift -= 8) {
                put(word >> shift);
            }
        }

        void putNumber(int number) {
            int unit = 1;
            for (int digits = 1; digits < 10 && number / unit >= 10; digits++) {
                unit *= 10;
            }
            for (; unit > 0; unit /= 10) {
                put('0' + number / unit % 10);
            }
        }

        int byteAt(int index) {
            return index >= 0 && index < length && index < bytes.length ? bytes[index] : 0;
        }
    }

    /** Reads a text as a column, up to its first error. */
    private static final class Reader {
        private static final int NO_ERROR = 0;
        // Longer numbers are out of every range, and must not run over.
        private static final int HUGE_NUMBER = 1000000;

        private final Bytes text;
        private int length = 0;
        private int at = 0;
        private int error = NO_ERROR;
        int errorAt = NONE;

        Reader(Bytes text) {
            this.text = text;
        }

        int readColumn(int textLength, Column column) {
            length = textLength;
            at = 0;
            error = NO_ERROR;
            errorAt = NONE;
            column.clear();
            skipSpaces();
            // A statement without an error takes more than one byte.
            for (int left = length; left > 0 && at < length && error == NO_ERROR; left--) {
                readStatement(column);
                skipSpaces();
            }
            return error == NO_ERROR ? column.rows.count : error;
        }

        private void readStatement(Column column) {
            int start = at;
            skipWord();
            if (isWord(start, "row")) {
                readRow(start, column);
            } else {
                readSetting(start, column);
            }
            takeSign(';', true);
        }

        private void readRow(int start, Column column) {
            if (column.rows.count >= ROW_ROOM) {
                fail(TOO_MANY, start);
                return;
            }
            int key = takeNumber(0, KEY_END - 1);
            boolean negative = takeSign('-', false);
            int value = takeNumber(0, MOST_VALUE);
            if (error == NO_ERROR) {
                column.index.putIn(column.rows.add(key, negative ? -value : value, INDEXED));
            }
        }

        private void readSetting(int start, Column column) {
            int what = settingAt(start);
            if (what == NONE) {
                fail(SYNTAX_ERROR, start);
                return;
            }
            int to = takeNumber(leastSetting(what), mostSetting(what));
            if (error == NO_ERROR) {
                column.putSetting(what, to);
            }
        }

        private int settingAt(int start) {
            if (isWord(start, "hot")) {
                return HOT;
            }
            if (isWord(start, "size")) {
                return SIZE;
            }
            if (isWord(start, "pieces")) {
                return PIECES;
            }
            return isWord(start, "pending") ? PENDING : NONE;
        }

        private void skipWord() {
            while (at < length && text.byteAt(at) >= 'a' && text.byteAt(at) <= 'z') {
                at++;
            }
        }

        private void skipSpaces() {
            while (at < length && text.byteAt(at) == ' ') {
                at++;
            }
        }

        private boolean isWord(int start, String word) {
            if (at - start != word.length()) {
                return false;
            }
            for (int i = 0; i < word.length(); i++) {
                if (text.byteAt(start + i) != word.charAt(i)) {
                    return false;
                }
            }
            return true;
        }

        private boolean takeSign(int sign, boolean needed) {
            skipSpaces();
            if (at < length && text.byteAt(at) == sign) {
                at++;
                return true;
            }
            if (needed) {
                fail(SYNTAX_ERROR, at);
            }
            return false;
        }

        private int takeNumber(int least, int most) {
            skipSpaces();
            int start = at;
            int number = 0;
            while (at < length && isDigit(text.byteAt(at))) {
                number = Math.min(number * 10 + text.byteAt(at) - '0', HUGE_NUMBER);
                at++;
            }
            if (at == start) {
                fail(SYNTAX_ERROR, start);
            } else if (number < least || number > most) {
                fail(VALUE_ERROR, start);
            }
            return number;
        }

        private static boolean isDigit(int value) {
            return value >= '0' && value <= '9';
        }

        /** Later errors of a statement are not told: reading stops at the first one. */
        private void fail(int code, int position) {
            if (error == NO_ERROR) {
                error = code;
                errorAt = position;
            }
        }
    }

    /** All that an undo brings back. */
    private static final class Column {
        final Rows rows = new Rows();
        final Index index = new Index(rows);
        final Answer answer = new Answer();
        final Kept kept = new Kept();
        private final int[] settings = new int[SETTINGS];
        private final int[] pendingRows = new int[PENDING_ROOM];
        int pendingCount = 0;
        int totalCost = 0;

        Column() {
            clear();
        }

        void clear() {
            rows.count = 0;
            index.clear();
            answer.clear();
            answer.given = false;
            kept.count = 0;
            pendingCount = 0;
            totalCost = 0;
            for (int what = 0; what < SETTINGS; what++) {
                putSetting(what, firstSetting(what));
            }
        }

        void become(Column other) {
            rows.become(other.rows);
            index.become(other.index);
            answer.become(other.answer);
            kept.become(other.kept);
            copyAll(other.settings, settings);
            copyAll(other.pendingRows, pendingRows);
            pendingCount = other.pendingCount;
            totalCost = other.totalCost;
        }

        int setting(int what) {
            return isSetting(what) ? settings[what] : 0;
        }

        void putSetting(int what, int to) {
            if (isSetting(what)) {
                settings[what] = to;
            }
        }

        void changeSetting(int what, int to) {
            putSetting(what, to);
            mergeTooMany();
        }

        int pendingAt(int place) {
            return place >= 0 && place < pendingCount && place < PENDING_ROOM ? pendingRows[place] : NONE;
        }

        int insertRow(int key, int value) {
            int row = rows.add(key, value, INSERTED);
            addPending(row);
            mergeTooMany();
            return row;
        }

        void deleteRow(int row) {
            if (rows.stateOf(row) == INSERTED) {
                rows.putState(row, DELETED);
                removePending(row);
                return;
            }
            rows.putState(row, LEAVING);
            addPending(row);
            mergeTooMany();
        }

        int mergeEverything() {
            int cost = mergeSpan(0, KEY_END);
            totalCost += cost;
            return cost;
        }

        void ask(int low, int high) {
            answer.clear();
            answer.given = true;
            int before = pendingCount;
            int cost = mergeSpan(low, high);
            answer.putNumber(MERGED, before - pendingCount);
            cost += index.divideAt(low);
            cost += index.divideAt(high);
            int first = index.pieceFor(low);
            int end = index.pieceFor(high);
            readPieces(first, end);
            cost += answer.numberAt(FOUND);
            cost += sortHotPieces(first, end);
            dropBounds();
            answer.putNumber(COST, cost);
            kept.add(low, high, answer.numberAt(FOUND), cost);
            totalCost += cost;
        }

        private void readPieces(int first, int end) {
            answer.putNumber(READ, end - first);
            for (int piece = first; piece < end; piece++) {
                index.warm(piece);
            }
            int last = index.startOf(end);
            for (int place = index.startOf(first); place < last; place++) {
                int row = index.rowAt(place);
                answer.take(rows.keyOf(row), rows.valueOf(row));
            }
        }

        private int sortHotPieces(int first, int end) {
            int cost = 0;
            int sorted = 0;
            for (int piece = first; piece < end; piece++) {
                if (isToSort(piece)) {
                    int size = index.sizeOf(piece);
                    cost += size * powerFor(size);
                    index.putInOrder(piece);
                    sorted++;
                }
            }
            answer.putNumber(SORTED, sorted);
            return cost;
        }

        private boolean isToSort(int piece) {
            int size = index.sizeOf(piece);
            return !index.isSorted(piece) && index.heatOf(piece) >= setting(HOT)
                && size >= 2 && size <= setting(SIZE);
        }

        private void dropBounds() {
            int dropped = Math.max(index.pieces - setting(PIECES), 0);
            for (int i = 0; i < dropped; i++) {
                index.joinNext(index.coldestOfPairs());
            }
            answer.putNumber(DROPPED, dropped);
        }

        private int mergeSpan(int low, int high) {
            int cost = 0;
            int left = 0;
            int count = Math.min(pendingCount, PENDING_ROOM);
            for (int place = 0; place < count; place++) {
                int row = pendingRows[place];
                if (rows.isIn(row, low, high)) {
                    cost += mergeRow(row);
                } else {
                    pendingRows[left] = row;
                    left++;
                }
            }
            pendingCount = left;
            return cost;
        }

        private void mergeTooMany() {
            int most = setting(PENDING);
            for (int over = pendingCount - most; over > 0; over--) {
                int oldest = pendingAt(0);
                removePending(oldest);
                totalCost += mergeRow(oldest);
            }
        }

        private int mergeRow(int row) {
            int cost = index.pieces - index.pieceFor(rows.keyOf(row));
            if (rows.stateOf(row) == INSERTED) {
                index.putIn(row);
                rows.putState(row, INDEXED);
            } else {
                index.takeOut(row);
                rows.putState(row, DELETED);
            }
            return cost;
        }

        private void addPending(int row) {
            if (pendingCount >= 0 && pendingCount < PENDING_ROOM) {
                pendingRows[pendingCount] = row;
                pendingCount++;
            }
        }

        private void removePending(int row) {
            int left = 0;
            int count = Math.min(pendingCount, PENDING_ROOM);
            for (int place = 0; place < count; place++) {
                int other = pendingRows[place];
                if (other != row) {
                    pendingRows[left] = other;
                    left++;
                }
            }
            pendingCount = left;
        }
    }

    /** All rows that were ever there, by their numbers. */
    private static final class Rows {
        private final int[] keys = new int[ROW_ROOM];
        private final int[] values = new int[ROW_ROOM];
        private final int[] states = new int[ROW_ROOM];
        int count = 0;

        void become(Rows other) {
            copyAll(other.keys, keys);
            copyAll(other.values, values);
            copyAll(other.states, states);
            count = other.count;
        }

        int add(int key, int value, int state) {
            int row = count;
            if (row < 0 || row >= ROW_ROOM) {
                return NONE;
            }
            keys[row] = key;
            values[row] = value;
            states[row] = state;
            count++;
            return row;
        }

        int keyOf(int row) {
            return row >= 0 && row < ROW_ROOM ? keys[row] : 0;
        }

        int valueOf(int row) {
            return row >= 0 && row < ROW_ROOM ? values[row] : 0;
        }

        int stateOf(int row) {
            return row >= 0 && row < ROW_ROOM ? states[row] : DELETED;
        }

        void putState(int row, int state) {
            if (row >= 0 && row < ROW_ROOM) {
                states[row] = state;
            }
        }

        boolean lives(int row) {
            int state = stateOf(row);
            return state == INDEXED || state == INSERTED;
        }

        boolean isIn(int row, int low, int high) {
            int key = keyOf(row);
            return key >= low && key < high;
        }

        boolean isAhead(int row, int other) {
            int key = keyOf(row);
            int otherKey = keyOf(other);
            return key < otherKey || key == otherKey && row < other;
        }

        int livingCount() {
            int living = 0;
            for (int row = 0; row < count; row++) {
                living += lives(row) ? 1 : 0;
            }
            return living;
        }

        int livingAt(int place) {
            for (int row = 0; row < count; row++) {
                if (lives(row) && livingAhead(row) == place) {
                    return row;
                }
            }
            return NONE;
        }

        private int livingAhead(int row) {
            int ahead = 0;
            for (int other = 0; other < count; other++) {
                ahead += lives(other) && isAhead(other, row) ? 1 : 0;
            }
            return ahead;
        }

        void tallyLiving(int low, int high, Answer tally) {
            tally.clear();
            for (int row = 0; row < count; row++) {
                if (lives(row) && isIn(row, low, high)) {
                    tally.take(keyOf(row), valueOf(row));
                }
            }
        }
    }

    /** The rows at their places, and the pieces that they stand in. */
    private static final class Index {
        private final Rows rows;
        private final int[] entries = new int[ROW_ROOM];
        private final int[] bounds = new int[PIECE_ROOM];
        private final int[] starts = new int[PIECE_ROOM];
        private final int[] heats = new int[PIECE_ROOM];
        // 1 or 0, so that it is copied like the others.
        private final int[] sorted = new int[PIECE_ROOM];
        int size = 0;
        int pieces = 0;

        Index(Rows rows) {
            this.rows = rows;
        }

        void clear() {
            size = 0;
            pieces = 1;
            bounds[0] = 0;
            starts[0] = 0;
            heats[0] = 0;
            sorted[0] = 0;
        }

        void become(Index other) {
            copyAll(other.entries, entries);
            copyAll(other.bounds, bounds);
            copyAll(other.starts, starts);
            copyAll(other.heats, heats);
            copyAll(other.sorted, sorted);
            size = other.size;
            pieces = other.pieces;
        }

        private boolean has(int piece) {
            return piece >= 0 && piece < pieces && piece < PIECE_ROOM;
        }

        int boundOf(int piece) {
            return has(piece) ? bounds[piece] : KEY_END;
        }

        /** Behind the last piece stands what would begin at the end of the index. */
        int startOf(int piece) {
            return has(piece) ? starts[piece] : size;
        }

        int sizeOf(int piece) {
            return startOf(piece + 1) - startOf(piece);
        }

        int heatOf(int piece) {
            return has(piece) ? heats[piece] : 0;
        }

        boolean isSorted(int piece) {
            return has(piece) && sorted[piece] == 1;
        }

        int sortedPieces() {
            int count = 0;
            for (int piece = 0; piece < pieces; piece++) {
                count += isSorted(piece) ? 1 : 0;
            }
            return count;
        }

        int rowAt(int place) {
            return place >= 0 && place < size && place < ROW_ROOM ? entries[place] : NONE;
        }

        private int keyAt(int place) {
            return rows.keyOf(rowAt(place));
        }

        int placeOf(int row) {
            for (int place = 0; place < size; place++) {
                if (rowAt(place) == row) {
                    return place;
                }
            }
            return NONE;
        }

        /** The last piece with a bound not greater than the key. */
        int pieceFor(int key) {
            int found = 0;
            for (int piece = 1; piece < pieces && piece < PIECE_ROOM; piece++) {
                if (bounds[piece] <= key) {
                    found = piece;
                }
            }
            return found;
        }

        int descentsOf(int piece) {
            int descents = 0;
            int last = startOf(piece + 1) - 1;
            for (int place = startOf(piece); place < last; place++) {
                descents += keyAt(place) > keyAt(place + 1) ? 1 : 0;
            }
            return descents;
        }

        void putIn(int row) {
            int piece = pieceFor(rows.keyOf(row));
            int place = startOf(piece + 1);
            int least = isSorted(piece) ? startOf(piece) : place;
            while (place > least && rows.isAhead(row, rowAt(place - 1))) {
                place--;
            }
            if (place < 0 || place > size || size >= ROW_ROOM) {
                return;
            }
            System.arraycopy(entries, place, entries, place + 1, size - place);
            entries[place] = row;
            size++;
            shiftStarts(piece + 1, 1);
        }

        void takeOut(int row) {
            int place = placeOf(row);
            if (place < 0 || place >= size || size > ROW_ROOM) {
                return;
            }
            int piece = pieceFor(rows.keyOf(row));
            System.arraycopy(entries, place + 1, entries, place, size - place - 1);
            size--;
            shiftStarts(piece + 1, -1);
        }

        private void shiftStarts(int from, int by) {
            int end = Math.min(pieces, PIECE_ROOM);
            for (int piece = Math.max(from, 0); piece < end; piece++) {
                starts[piece] += by;
            }
        }

        int divideAt(int at) {
            int piece = pieceFor(at);
            if (!has(piece) || boundOf(piece) == at || pieces >= PIECE_ROOM) {
                return 0;
            }
            int pieceSize = sizeOf(piece);
            int cost = isSorted(piece) ? powerFor(pieceSize + 1) : pieceSize;
            int middle = gatherLess(piece, at);
            for (int other = pieces; other > piece; other--) {
                movePiece(other - 1, other);
            }
            pieces++;
            heats[piece] /= 2;
            bounds[piece + 1] = at;
            starts[piece + 1] = middle;
            heats[piece + 1] = heats[piece];
            return cost;
        }

        /** The rows with keys less than the number go ahead of the others, which begin where it tells. */
        private int gatherLess(int piece, int at) {
            int middle = startOf(piece);
            int end = startOf(piece + 1);
            for (int place = middle; place < end; place++) {
                if (keyAt(place) < at) {
                    moveDown(place, middle);
                    middle++;
                }
            }
            return middle;
        }

        /** Moves the row at a place to one ahead of it, and those between one place on. */
        private void moveDown(int from, int to) {
            if (to < 0 || from <= to || from >= size || from >= ROW_ROOM) {
                return;
            }
            int row = entries[from];
            System.arraycopy(entries, to, entries, to + 1, from - to);
            entries[to] = row;
        }

        private void movePiece(int from, int to) {
            if (Math.min(from, to) < 0 || Math.max(from, to) >= PIECE_ROOM) {
                return;
            }
            bounds[to] = bounds[from];
            starts[to] = starts[from];
            heats[to] = heats[from];
            sorted[to] = sorted[from];
        }

        int misplacedIn(int piece) {
            int start = startOf(piece);
            int end = startOf(piece + 1);
            int misplaced = 0;
            for (int place = start; place < end; place++) {
                misplaced += aheadOf(rowAt(place), start, end) != place - start ? 1 : 0;
            }
            return misplaced;
        }

        private int aheadOf(int row, int start, int end) {
            int ahead = 0;
            for (int place = start; place < end; place++) {
                ahead += rows.isAhead(rowAt(place), row) ? 1 : 0;
            }
            return ahead;
        }

        void putInOrder(int piece) {
            if (!has(piece)) {
                return;
            }
            int start = startOf(piece);
            int end = startOf(piece + 1);
            for (int place = start + 1; place < end; place++) {
                slideDown(start, place);
            }
            sorted[piece] = 1;
        }

        /** The rows from start to this place are in order but for the one at this place. */
        private void slideDown(int start, int place) {
            int row = rowAt(place);
            int to = place;
            while (to > start && rows.isAhead(row, rowAt(to - 1))) {
                to--;
            }
            moveDown(place, to);
        }

        void warm(int piece) {
            if (has(piece)) {
                heats[piece]++;
            }
        }

        /** The piece and the one behind it become one. */
        void joinNext(int piece) {
            if (!has(piece) || !has(piece + 1)) {
                return;
            }
            heats[piece] += heats[piece + 1];
            sorted[piece] *= sorted[piece + 1];
            for (int other = piece + 2; other < pieces; other++) {
                movePiece(other, other - 1);
            }
            pieces--;
        }

        int hottestPiece() {
            int best = 0;
            for (int piece = 1; piece < pieces; piece++) {
                best = heatOf(piece) > heatOf(best) ? piece : best;
            }
            return best;
        }

        int coldestOfPairs() {
            int best = NONE;
            for (int piece = 0; piece < pieces - 1; piece++) {
                best = best == NONE || pairHeat(piece) < pairHeat(best) ? piece : best;
            }
            return best;
        }

        private int pairHeat(int piece) {
            return heatOf(piece) + heatOf(piece + 1);
        }

        int largestUnsorted() {
            int best = NONE;
            for (int piece = 0; piece < pieces; piece++) {
                if (!isSorted(piece) && (best == NONE || sizeOf(piece) > sizeOf(best))) {
                    best = piece;
                }
            }
            return best;
        }

        int evenKeyOf(int piece) {
            int best = NONE;
            int bestGap = 0;
            int end = startOf(piece + 1);
            for (int place = startOf(piece); place < end; place++) {
                int key = keyAt(place);
                if (key > boundOf(piece)) {
                    int gap = gapAt(piece, key);
                    if (best == NONE || gap < bestGap || gap == bestGap && key < best) {
                        best = key;
                        bestGap = gap;
                    }
                }
            }
            return best;
        }

        private int gapAt(int piece, int key) {
            int less = 0;
            int end = startOf(piece + 1);
            for (int place = startOf(piece); place < end; place++) {
                less += keyAt(place) < key ? 1 : 0;
            }
            return Math.abs(sizeOf(piece) - 2 * less);
        }
    }

    /** The numbers of an answer; the first four alone are those of a scan. */
    private static final class Answer {
        private final int[] numbers = new int[ANSWERS];
        boolean given = false;

        void clear() {
            for (int what = 0; what < ANSWERS; what++) {
                numbers[what] = 0;
            }
            numbers[LEAST] = NONE;
            numbers[GREATEST] = NONE;
        }

        void become(Answer other) {
            copyAll(other.numbers, numbers);
            given = other.given;
        }

        void take(int key, int value) {
            boolean first = numbers[FOUND] == 0;
            numbers[FOUND]++;
            numbers[SUM] += value;
            numbers[LEAST] = first ? key : Math.min(numbers[LEAST], key);
            numbers[GREATEST] = Math.max(numbers[GREATEST], key);
        }

        int numberAt(int what) {
            return what >= 0 && what < ANSWERS ? numbers[what] : NONE;
        }

        void putNumber(int what, int number) {
            if (what >= 0 && what < ANSWERS) {
                numbers[what] = number;
            }
        }
    }

    /** The latest queries, the latest one first. */
    private static final class Kept {
        private final int[] numbers = new int[KEPT_ROOM * KEPT_NUMBERS];
        int count = 0;

        void become(Kept other) {
            copyAll(other.numbers, numbers);
            count = other.count;
        }

        void add(int low, int high, int found, int cost) {
            System.arraycopy(numbers, 0, numbers, KEPT_NUMBERS, numbers.length - KEPT_NUMBERS);
            numbers[0] = low;
            numbers[1] = high;
            numbers[2] = found;
            numbers[KEPT_COST] = cost;
            count = Math.min(count + 1, KEPT_ROOM);
        }

        int numberAt(int back, int what) {
            boolean is = back >= 0 && back < KEPT_ROOM && what >= 0 && what < KEPT_NUMBERS;
            return is ? numbers[back * KEPT_NUMBERS + what] : 0;
        }

        int nearestTo(int low, int high) {
            int best = NONE;
            int most = 0;
            for (int back = 0; back < count; back++) {
                int common = Math.min(high, numberAt(back, 1)) - Math.max(low, numberAt(back, 0));
                if (common > most) {
                    best = back;
                    most = common;
                }
            }
            return best;
        }
    }
}
