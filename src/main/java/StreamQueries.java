import java.util.ArrayList;
import java.util.Arrays;

/** Standing queries over small streams of rows: the answer, and what each act on the streams changes in it. */
public final class StreamQueries {
    public static final int NONE = -1;

    private static final int TAPE_SIZE = 2000;
    private static final int FEED_SIZE = 20;
    private static final int STREAM_LIMIT = 6;
    private static final int COLUMN_LIMIT = 4;
    private static final int ROW_LIMIT = 8;
    private static final int CELLS = COLUMN_LIMIT + 1;
    private static final int LIST_LIMIT = 8;
    private static final int LEAF_LIMIT = 3;
    private static final int AGGREGATE_LIMIT = 12;
    private static final int NEST_LIMIT = 12;
    private static final int EXPR_LIMIT = 120;
    private static final int WORD_LIMIT = 12;
    private static final int LIMIT_LIMIT = 100;

    private static final int FAULT_TOKEN = 1;
    private static final int FAULT_NAME = 2;
    private static final int FAULT_UNCLEAR = 3;
    private static final int FAULT_TYPE = 4;
    private static final int FAULT_UNBOUNDED = 5;
    private static final int FAULT_COLUMNS = 6;
    private static final int FAULT_MUCH = 7;

    /** Types are sets of bits, so that a null can stand for either. */
    private static final int NUMBER_TYPE = 1;
    private static final int TRUTH_TYPE = 2;
    private static final int ANY_TYPE = 3;

    /** Names are held as numbers to the base 37: a is 1 .. z is 26, 0 is 27 .. 9 is 36; no word is 0 or below. */
    private static final int NAME_BASE = 37;
    private static final int DIGIT_CODE = 27;
    private static final long TIME_NAME = 0;
    private static final long NO_NAME = -1;
    private static final long FIRST_STREAM_NAME = 19 * NAME_BASE + DIGIT_CODE;

    /** The kind of a taken word is its place in this list. */
    private static final String TAKEN = "select distinct from join left on where group by having union all except intersect order desc limit as keep case when then else end is not null in and or true false count sum min max span unbounded time ";
    private static final int TAKEN_COUNT = 39;
    private static final int SELECT = 0;
    private static final int DISTINCT = 1;
    private static final int FROM = 2;
    private static final int JOIN = 3;
    private static final int LEFT = 4;
    private static final int ON = 5;
    private static final int WHERE = 6;
    private static final int GROUP = 7;
    private static final int BY = 8;
    private static final int HAVING = 9;
    private static final int UNION = 10;
    private static final int ALL = 11;
    private static final int EXCEPT = 12;
    private static final int INTERSECT = 13;
    private static final int ORDER = 14;
    private static final int DESC = 15;
    private static final int LIMIT = 16;
    private static final int AS = 17;
    private static final int KEEP = 18;
    private static final int CASE = 19;
    private static final int WHEN = 20;
    private static final int THEN = 21;
    private static final int ELSE = 22;
    private static final int END = 23;
    private static final int IS = 24;
    private static final int NOT = 25;
    private static final int NULL = 26;
    private static final int IN = 27;
    private static final int AND = 28;
    private static final int OR = 29;
    private static final int TRUE = 30;
    private static final int FALSE = 31;
    private static final int COUNT = 32;
    private static final int SUM = 33;
    private static final int MIN = 34;
    private static final int MAX = 35;
    private static final int SPAN = 36;
    private static final int UNBOUNDED = 37;
    private static final int TIME = 38;
    private static final int NAME = 39;
    private static final int NUMBER = 40;

    /** The kind of a sign of one byte is FIRST_SIGN and its place in this list. */
    private static final String SIGNS = "(),.+-*/%=<>";
    private static final int FIRST_SIGN = 41;
    private static final int OPEN = 41;
    private static final int CLOSE = 42;
    private static final int COMMA = 43;
    private static final int DOT = 44;
    private static final int PLUS = 45;
    private static final int MINUS = 46;
    private static final int STAR = 47;
    private static final int SLASH = 48;
    private static final int PERCENT = 49;
    private static final int EQUAL = 50;
    private static final int LESS = 51;
    private static final int MORE = 52;
    private static final int UNLIKE = 53;
    private static final int AT_MOST = 54;
    private static final int AT_LEAST = 55;
    private static final int TEXT_END = 56;
    private static final int BAD = 57;

    /** Acts that no single token tells apart. */
    private static final int NEGATE = 58;
    private static final int IS_NOT = 59;
    private static final int NOT_IN = 60;
    private static final int COUNT_ALL = 61;

    private final byte[] tape;
    private int tapeSize;
    private final Streams streams;
    private final Tokens tokens;
    private int latestFault;
    private Text standing;
    private Runner runner;
    private final Strip arena;
    private final Strip shown;
    private final Strip sorted;
    private final Strip before;
    private int answerRows;
    private int[] changeRow;
    private int[] changeBy;
    private int changeTotal;
    private final Code trial;

    public StreamQueries() {
        tape = new byte[TAPE_SIZE];
        streams = new Streams();
        tokens = new Tokens();
        arena = new Strip();
        shown = new Strip();
        sorted = new Strip();
        before = new Strip();
        changeRow = new int[ROW_LIMIT];
        changeBy = new int[ROW_LIMIT];
        trial = new Code(2);
    }

    public int feed(int a, int b, int c, int d, int e) {
        if (tapeSize > TAPE_SIZE - FEED_SIZE) {
            return NONE;
        }
        takeFour(a);
        takeFour(b);
        takeFour(c);
        takeFour(d);
        takeFour(e);
        return tapeSize;
    }

    private void takeFour(int four) {
        for (int shift = 24; shift >= 0; shift -= 8) {
            if (tapeSize < tape.length) {
                tape[tapeSize] = (byte) (four >> shift);
                tapeSize++;
            }
        }
    }

    public int cut(int n) {
        if (n < 0 || n > tapeSize) {
            return NONE;
        }
        int gone = tapeSize - n;
        tapeSize = n;
        return gone;
    }

    public int stream(int columns) {
        return streams.open(columns);
    }

    public int query() {
        tokens.scan(tape, tapeSize);
        Text text = new Text(tokens, tapeSize);
        text.read();
        if (text.fault == 0) {
            Checker checker = new Checker(text, streams);
            checker.checkQuery(text.top);
        }
        tapeSize = 0;
        changeTotal = 0;
        latestFault = text.fault;
        if (text.fault != 0) {
            return -10 - text.place;
        }
        standing = text;
        runner = new Runner(streams, text.code, arena);
        answer(false);
        return width();
    }

    public int fault() {
        return latestFault;
    }

    public int value(long v) {
        return streams.draft(v, (byte) 0);
    }

    public int nothing() {
        return streams.draft(0, (byte) 1);
    }

    public int row(int stream, long time) {
        changeTotal = 0;
        int place = streams.settle(stream, time);
        if (place != NONE) {
            answer(true);
        }
        return place;
    }

    public boolean back(int stream, int place) {
        changeTotal = 0;
        if (!streams.remove(stream, place)) {
            return false;
        }
        answer(true);
        return true;
    }

    public int watermark(long time) {
        changeTotal = 0;
        if (time > streams.watermark) {
            streams.watermark = time;
            answer(true);
        }
        return changeTotal;
    }

    public int changes() {
        return changeTotal;
    }

    public int change(int i) {
        if (i < 0 || i >= changeTotal || i >= changeBy.length) {
            return 0;
        }
        return changeBy[i];
    }

    public long changed(int i, int column) {
        int cell = changeCell(i, column);
        if (cell < 0) {
            return 0;
        }
        return change(i) < 0 ? before.valueOf(cell) : sorted.valueOf(cell);
    }

    public boolean changedNull(int i, int column) {
        int cell = changeCell(i, column);
        if (cell < 0) {
            return false;
        }
        return change(i) < 0 ? before.isBlank(cell) : sorted.isBlank(cell);
    }

    public int rows() {
        return answerRows;
    }

    public long at(int i, int column) {
        int cell = answerCell(i, column);
        return cell < 0 ? 0 : answerStrip().valueOf(cell);
    }

    public boolean isNull(int i, int column) {
        int cell = answerCell(i, column);
        return cell >= 0 && answerStrip().isBlank(cell);
    }

    public int type(int column) {
        return standing == null ? 0 : standing.columnType(column);
    }

    public int three(int act, int a, int b) {
        switch (act) {
            case 0:
                return trial.weigh(AND, a, b);
            case 1:
                return trial.weigh(OR, a, b);
            case 2:
                return trial.weigh(NOT, a, b);
            case 3:
                return trial.weigh(EQUAL, a, b);
            case 4:
                return trial.weigh(LESS, a, b);
            case 5:
                return trial.weigh(PLUS, a, b);
            default:
                return -2;
        }
    }

    public int told(int what) {
        switch (what) {
            case 0:
                return streams.count;
            case 1:
                return streams.rowCount();
            case 2:
                return standing == null ? 0 : standing.visibleRows(streams);
            case 3:
                return standing == null ? 0 : standing.code.size;
            case 4:
                return standing == null ? 0 : standing.leafCount;
            case 5:
                return standing == null ? 0 : 1;
            default:
                return NONE;
        }
    }

    private int width() {
        return standing == null ? 0 : standing.top.items.size;
    }

    private Strip answerStrip() {
        return standing != null && standing.top.orders != null ? shown : sorted;
    }

    private int answerCell(int i, int column) {
        if (i < 0 || i >= answerRows || column < 0 || column >= width()) {
            return -1;
        }
        return i * width() + column;
    }

    private int changeCell(int i, int column) {
        if (i < 0 || i >= changeTotal || i >= changeRow.length || column < 0 || column >= width()) {
            return -1;
        }
        return changeRow[i] * width() + column;
    }

    private void answer(boolean isTold) {
        if (standing == null || runner == null) {
            return;
        }
        int width = width();
        before.take(sorted, isTold ? answerRows * width : 0);
        int beforeRows = isTold ? answerRows : 0;
        answerRows = runner.runQuery(standing.top, 0);
        shown.take(arena, answerRows * width);
        sorted.take(arena, answerRows * width);
        sorted.sort(0, answerRows, width, 0);
        if (isTold) {
            makeRoomForChanges(beforeRows + answerRows);
            tellChanges(before, beforeRows, sorted, answerRows, -1);
            tellChanges(sorted, answerRows, before, beforeRows, 1);
        }
    }

    private void makeRoomForChanges(int most) {
        if (changeRow.length < most || changeBy.length < most) {
            changeRow = new int[2 * most];
            changeBy = new int[2 * most];
        }
    }

    /** Both are sorted by their columns, so one walk over both meets like rows side by side. */
    private void tellChanges(Strip one, int oneRows, Strip other, int otherRows, int sign) {
        int width = width();
        int j = 0;
        int often = 0;
        for (int i = 0; i < oneRows; i += Math.max(often, 1)) {
            often = one.repeats(i, oneRows, width);
            while (j < otherRows && other.compareRows(j * width, one, i * width, width, 0) < 0) {
                j++;
            }
            boolean met = j < otherRows && other.compareRows(j * width, one, i * width, width, 0) == 0;
            int more = often - (met ? other.repeats(j, otherRows, width) : 0);
            if (more > 0 && changeTotal < changeRow.length && changeTotal < changeBy.length) {
                changeRow[changeTotal] = i;
                changeBy[changeTotal] = sign * more;
                changeTotal++;
            }
        }
    }

    /** The streams with their rows, and the draft of the next row. A row's cells are its columns, then its time. */
    private static final class Streams {
        int count;
        long watermark;
        private final int[] columns;
        private final long[] values;
        private final byte[] nulls;
        private final byte[] there;
        private final long[] draftValues;
        private final byte[] draftNulls;
        private int draftSize;

        Streams() {
            watermark = Long.MIN_VALUE;
            columns = new int[STREAM_LIMIT];
            values = new long[STREAM_LIMIT * ROW_LIMIT * CELLS];
            nulls = new byte[STREAM_LIMIT * ROW_LIMIT * CELLS];
            there = new byte[STREAM_LIMIT * ROW_LIMIT];
            draftValues = new long[COLUMN_LIMIT];
            draftNulls = new byte[COLUMN_LIMIT];
        }

        int open(int wanted) {
            if (wanted < 1 || wanted > COLUMN_LIMIT || count >= columns.length) {
                return NONE;
            }
            columns[count] = wanted;
            count++;
            return count - 1;
        }

        boolean exists(int number) {
            return number >= 0 && number < count && number < columns.length;
        }

        int columnCount(int number) {
            return exists(number) ? columns[number] : 0;
        }

        int draft(long v, byte blank) {
            if (draftSize >= draftValues.length || draftSize >= draftNulls.length) {
                return NONE;
            }
            draftValues[draftSize] = v;
            draftNulls[draftSize] = blank;
            draftSize++;
            return draftSize;
        }

        /** The draft is used up even when it can not become a row. */
        int settle(int number, long time) {
            int size = draftSize;
            draftSize = 0;
            if (!exists(number) || size != columnCount(number)) {
                return NONE;
            }
            int place = freePlace(number);
            if (place != NONE) {
                write(number * ROW_LIMIT + place, size, time);
            }
            return place;
        }

        private int freePlace(int number) {
            for (int place = 0; place < ROW_LIMIT; place++) {
                if (!holds(number, place)) {
                    return place;
                }
            }
            return NONE;
        }

        private void write(int index, int size, long time) {
            int cell = index * CELLS;
            if (index < 0 || index >= there.length || cell + size >= values.length || size > draftValues.length) {
                return;
            }
            System.arraycopy(draftValues, 0, values, cell, size);
            System.arraycopy(draftNulls, 0, nulls, cell, size);
            values[cell + size] = time;
            nulls[cell + size] = 0;
            there[index] = 1;
        }

        boolean holds(int number, int place) {
            return exists(number) && place >= 0 && place < ROW_LIMIT && there[number * ROW_LIMIT + place] != 0;
        }

        boolean remove(int number, int place) {
            if (!holds(number, place)) {
                return false;
            }
            there[number * ROW_LIMIT + place] = 0;
            return true;
        }

        int rowCount() {
            int total = 0;
            for (int i = 0; i < there.length; i++) {
                total += there[i];
            }
            return total;
        }

        /** A keep below 0 stands for none; watermark less keep would go round below the least long. */
        boolean shows(int number, int place, long keep) {
            if (!holds(number, place)) {
                return false;
            }
            long oldest = watermark < Long.MIN_VALUE + keep ? Long.MIN_VALUE : watermark - keep;
            long time = values[(number * ROW_LIMIT + place) * CELLS + columns[number]];
            return keep < 0 || time >= oldest;
        }

        void copyRow(int number, int place, Strip strip, int to) {
            if (!holds(number, place)) {
                return;
            }
            int cell = (number * ROW_LIMIT + place) * CELLS;
            for (int i = 0; i <= columns[number] && i < CELLS; i++) {
                strip.put(to + i, values[cell + i], nulls[cell + i]);
            }
        }
    }

    /** The tokens of the tape, the last one its end or one that is none. */
    private static final class Tokens {
        final int[] kinds;
        final int[] places;
        /** A number's value, or a name as a number. */
        final long[] numbers;
        private byte[] bytes;
        private int size;
        private int next;
        private final long[] taken;

        Tokens() {
            kinds = new int[TAPE_SIZE + 1];
            places = new int[TAPE_SIZE + 1];
            numbers = new long[TAPE_SIZE + 1];
            bytes = new byte[0];
            taken = new long[TAKEN_COUNT];
            long word = 0;
            int count = 0;
            for (int i = 0; i < TAKEN.length() && count < taken.length; i++) {
                char c = TAKEN.charAt(i);
                if (c == ' ') {
                    taken[count] = word;
                    count++;
                    word = 0;
                } else {
                    word = word * NAME_BASE + letterCode(c);
                }
            }
        }

        void scan(byte[] tape, int tapeSize) {
            bytes = tape;
            size = Math.min(tapeSize, tape.length);
            next = 0;
            boolean isMore = true;
            for (int i = 0; i < kinds.length && isMore; i++) {
                skipBlanks();
                places[i] = next;
                scanToken(i);
                isMore = kinds[i] != TEXT_END && kinds[i] != BAD;
            }
        }

        private void scanToken(int i) {
            int c = byteAt(next);
            numbers[i] = 0;
            if (next >= size) {
                kinds[i] = TEXT_END;
            } else if (isLetter(c)) {
                scanWord(i);
            } else if (isDigit(c)) {
                scanNumber(i);
            } else {
                kinds[i] = scanSign(c);
            }
        }

        private int byteAt(int i) {
            return i >= 0 && i < size && i < bytes.length ? bytes[i] : -1;
        }

        private void skipBlanks() {
            while (next < size && isBlankByte(byteAt(next))) {
                next++;
            }
        }

        private static boolean isBlankByte(int c) {
            return c == 32 || c == 9 || c == 13 || c == 10;
        }

        private static boolean isLetter(int c) {
            return c >= 'a' && c <= 'z';
        }

        private static boolean isDigit(int c) {
            return c >= '0' && c <= '9';
        }

        private static int letterCode(int c) {
            return isDigit(c) ? c - '0' + DIGIT_CODE : c - 'a' + 1;
        }

        private void scanWord(int i) {
            int begin = next;
            long word = 0;
            while (next < size && (isLetter(byteAt(next)) || isDigit(byteAt(next)))) {
                word = word * NAME_BASE + letterCode(byteAt(next));
                next++;
            }
            numbers[i] = word;
            kinds[i] = next - begin > WORD_LIMIT ? BAD : wordKind(word);
        }

        private int wordKind(long word) {
            for (int i = 0; i < taken.length; i++) {
                if (taken[i] == word) {
                    return i;
                }
            }
            return NAME;
        }

        private void scanNumber(int i) {
            long number = 0;
            kinds[i] = NUMBER;
            while (next < size && isDigit(byteAt(next))) {
                int digit = byteAt(next) - '0';
                if (number > (Long.MAX_VALUE - digit) / 10) {
                    kinds[i] = BAD;
                } else {
                    number = number * 10 + digit;
                }
                next++;
            }
            numbers[i] = number;
            if (isLetter(byteAt(next))) {
                kinds[i] = BAD;
            }
        }

        private int scanSign(int c) {
            int sign = c < 0 ? -1 : SIGNS.indexOf((char) c);
            int kind = sign < 0 ? BAD : FIRST_SIGN + sign;
            next++;
            int longer = longerSign(kind, byteAt(next));
            if (longer == kind) {
                return kind;
            }
            next++;
            return longer;
        }

        private static int longerSign(int kind, int follower) {
            if (kind == LESS && follower == '>') {
                return UNLIKE;
            }
            if (kind == LESS && follower == '=') {
                return AT_MOST;
            }
            return kind == MORE && follower == '=' ? AT_LEAST : kind;
        }
    }

    /**
     * The EXPRS of a text, each behind its parts, and the stack on which they are computed. A node's kind is the
     * token of its act; a column's is NAME.
     */
    private static final class Code {
        int size;
        final int[] kinds;
        /** Where the EXPR's first token stands, brackets around all of it left aside. */
        final int[] places;
        /** The node with which its parts begin. */
        final int[] firsts;
        final int[] parts;
        /** A literal's number, or a column's name. */
        final long[] numbers;
        /** The source's name in front of a column's. */
        final long[] owners;
        /** On the first node within an aggregate: the aggregate, whose inside is not computed with what is around. */
        final int[] skips;
        final int[] slots;
        final int[] types;
        private final long[] stack;
        private final byte[] blank;
        private int top;

        Code(int capacity) {
            int room = Math.max(capacity, 0);
            kinds = new int[room];
            places = new int[room];
            firsts = new int[room];
            parts = new int[room];
            numbers = new long[room];
            owners = new long[room];
            skips = new int[room];
            slots = new int[room];
            types = new int[room];
            stack = new long[room];
            blank = new byte[room];
        }

        boolean has(int node) {
            return node >= 0 && node < size && node < kinds.length;
        }

        /** The new node's index, or NONE where there is no room. */
        int add(int kind, int first, int place, int partCount) {
            if (size >= kinds.length) {
                return NONE;
            }
            int node = size;
            size++;
            kinds[node] = kind;
            places[node] = place;
            firsts[node] = first >= 0 && first <= node ? first : node;
            parts[node] = partCount;
            owners[node] = NO_NAME;
            skips[node] = NONE;
            return node;
        }

        /** What was computed stays at the stack's bottom; told is whether it is true. */
        boolean compute(int root, Strip strip, int base) {
            top = 0;
            if (!has(root)) {
                return false;
            }
            for (int i = firsts[root]; i <= root; i++) {
                if (skips[i] > i && skips[i] <= root) {
                    i = skips[i];
                }
                switch (kinds[i]) {
                    case NUMBER:
                        push(numbers[i], 0);
                        break;
                    case TRUE:
                        push(1, 0);
                        break;
                    case FALSE:
                        push(0, 0);
                        break;
                    case NULL:
                        push(0, 1);
                        break;
                    case NAME:
                    case COUNT:
                    case COUNT_ALL:
                    case SUM:
                    case MIN:
                    case MAX:
                        push(strip.valueOf(base + slots[i]), strip.isBlank(base + slots[i]) ? 1 : 0);
                        break;
                    case NOT:
                    case NEGATE:
                    case IS:
                    case IS_NOT:
                        one(kinds[i]);
                        break;
                    case CASE:
                        choose();
                        break;
                    case IN:
                    case NOT_IN:
                        search(parts[i] - 1, kinds[i] == IN ? 1 : 0);
                        break;
                    default:
                        two(kinds[i]);
                        break;
                }
            }
            return top == 1 && blank[0] == 0 && stack[0] != 0;
        }

        long resultValue() {
            return top == 1 ? stack[0] : 0;
        }

        byte resultBlank() {
            return top == 1 ? blank[0] : 1;
        }

        private void push(long v, int isBlank) {
            if (top < stack.length && top < blank.length) {
                stack[top] = isBlank != 0 ? 0 : v;
                blank[top] = (byte) isBlank;
                top++;
            }
        }

        private void one(int kind) {
            if (top < 1) {
                return;
            }
            top--;
            long x = stack[top];
            int isBlank = blank[top];
            switch (kind) {
                case NOT:
                    push(1 - x, isBlank);
                    break;
                case NEGATE:
                    push(-x, isBlank);
                    break;
                case IS:
                    push(isBlank, 0);
                    break;
                default:
                    push(1 - isBlank, 0);
                    break;
            }
        }

        private void two(int kind) {
            if (top < 2) {
                return;
            }
            top -= 2;
            long x = stack[top];
            long y = stack[top + 1];
            boolean xThere = blank[top] == 0;
            boolean yThere = blank[top + 1] == 0;
            if (kind == AND || kind == OR) {
                int deciding = kind == AND ? 0 : 1;
                boolean decided = xThere && x == deciding || yThere && y == deciding;
                push(decided ? deciding : 1 - deciding, decided || xThere && yThere ? 0 : 1);
                return;
            }
            boolean known = xThere && yThere && hasResult(kind, y);
            push(known ? reckon(kind, x, y) : 0, known ? 0 : 1);
        }

        private static boolean hasResult(int kind, long y) {
            if (kind == SLASH || kind == PERCENT) {
                return y != 0;
            }
            return kind != SPAN || y > 0;
        }

        private static long reckon(int kind, long x, long y) {
            switch (kind) {
                case PLUS:
                    return x + y;
                case MINUS:
                    return x - y;
                case STAR:
                    return x * y;
                case SLASH:
                    return y == 0 ? 0 : x / y;
                case PERCENT:
                    return y == 0 ? 0 : x % y;
                case SPAN:
                    long above = y == 0 ? 0 : x % y;
                    return above < 0 ? x - above - y : x - above;
                case EQUAL:
                    return x == y ? 1 : 0;
                case UNLIKE:
                    return x != y ? 1 : 0;
                case LESS:
                    return x < y ? 1 : 0;
                case AT_MOST:
                    return x <= y ? 1 : 0;
                case MORE:
                    return x > y ? 1 : 0;
                default:
                    return x >= y ? 1 : 0;
            }
        }

        private void choose() {
            if (top < 3) {
                return;
            }
            top -= 3;
            int chosen = blank[top] == 0 && stack[top] != 0 ? top + 1 : top + 2;
            push(stack[chosen], blank[chosen]);
        }

        /** A NULL on either side only matters where nothing alike was found. */
        private void search(int count, int ifFound) {
            if (count < 0 || top < count + 1) {
                return;
            }
            top -= count + 1;
            boolean unsure = blank[top] != 0;
            boolean found = false;
            for (int i = top + 1; i <= top + count; i++) {
                unsure = unsure || blank[i] != 0;
                found = found || blank[top] == 0 && blank[i] == 0 && stack[i] == stack[top];
            }
            push(found ? ifFound : 1 - ifFound, !found && unsure ? 1 : 0);
        }

        /** Numbers other than 0 and 1 stand for NULL here. */
        int weigh(int kind, int a, int b) {
            top = 0;
            push(a, a == 0 || a == 1 ? 0 : 1);
            if (kind == NOT) {
                one(kind);
            } else {
                push(b, b == 0 || b == 1 ? 0 : 1);
                two(kind);
            }
            return resultBlank() != 0 ? NONE : (int) resultValue();
        }
    }

    /** Up to eight columns: ITEMS, EXPRS of group by or order by, or what a SOURCE has. */
    private static final class Columns {
        int size;
        final int[] roots;
        final long[] names;
        /** Of group by: where the NAME stands; of order by: whether it is the other way. */
        final int[] marks;
        final int[] types;

        Columns() {
            roots = new int[LIST_LIMIT];
            names = new long[LIST_LIMIT];
            marks = new int[LIST_LIMIT];
            types = new int[LIST_LIMIT];
        }

        boolean isFull() {
            return size >= LIST_LIMIT;
        }

        void add(int root, long name, int mark, int kindOfValue) {
            if (isFull()) {
                return;
            }
            roots[size] = root;
            names[size] = name;
            marks[size] = mark;
            types[size] = kindOfValue;
            size++;
        }

        boolean has(int i) {
            return i >= 0 && i < size && i < LIST_LIMIT;
        }

        /** The first column from one on that has the name, or NONE. */
        int find(long name, int from) {
            for (int i = Math.max(from, 0); i < size && i < LIST_LIMIT; i++) {
                if (names[i] == name) {
                    return i;
                }
            }
            return NONE;
        }

        boolean allNamedApart() {
            for (int i = 0; i < size && i < LIST_LIMIT; i++) {
                if (names[i] == NO_NAME || find(names[i], i + 1) != NONE) {
                    return false;
                }
            }
            return true;
        }

        /** A null that nothing told a type of is a number. */
        void settleType(int i, int found) {
            if (has(i)) {
                types[i] = found == TRUTH_TYPE ? TRUTH_TYPE : NUMBER_TYPE;
            }
        }

        boolean sameTypes(Columns other) {
            if (size != other.size) {
                return false;
            }
            for (int i = 0; i < size && i < LIST_LIMIT; i++) {
                if (types[i] != other.types[i]) {
                    return false;
                }
            }
            return true;
        }

        int markBits() {
            int bits = 0;
            for (int i = 0; i < size && i < LIST_LIMIT; i++) {
                bits |= marks[i] != 0 ? 1 << i : 0;
            }
            return bits;
        }
    }

    /** One SOURCE of a SELECT: a stream, or a QUERY in brackets. */
    private static final class Source {
        int stream = NONE;
        Query inner;
        int place;
        int closing;
        long name = NO_NAME;
        int namePlace;
        long keep = -1;
        boolean isOuter;
        int joinPlace;
        int on = NONE;
        /** Where its columns begin in the row of all SOURCES. */
        int start;
        final Columns columns = new Columns();
    }

    private static final class Select {
        boolean isDistinct;
        int distinctPlace;
        final Columns items = new Columns();
        final Source[] sources = new Source[LEAF_LIMIT];
        int sourceCount;
        int where = NONE;
        boolean hasGroups;
        int groupPlace;
        final Columns groups = new Columns();
        int having = NONE;
        final int[] aggregates = new int[AGGREGATE_LIMIT];
        int aggregateCount;
        /** The set's word ahead of it; union all is ALL. */
        int set = UNION;
        int setPlace;
        /** Whether a stream beneath has no keep. */
        boolean isUnkept;

        boolean isGrouped() {
            return hasGroups || aggregateCount > 0;
        }

        int joinedWidth() {
            int width = 0;
            for (int i = 0; i < sourceCount && i < sources.length; i++) {
                width += sources[i] == null ? 0 : sources[i].columns.size;
            }
            return width;
        }
    }

    private static final class Query {
        final ArrayList<Select> selects;
        /** The first SELECT's, which have the QUERY's names and types. */
        final Columns items;
        /** Of order by, or null. */
        Columns orders;
        int orderPlace;
        int limit;
        boolean isUnkept;

        Query(Select first) {
            selects = new ArrayList<Select>();
            selects.add(first);
            items = first.items;
        }
    }

    /** Reads a text; the first fault stays, and behind it no token is seen any more. */
    private static final class Text {
        int fault;
        int place;
        final Code code;
        Query top;
        boolean isUnbounded;
        int leafCount;
        private final Source[] leaves;
        private final Tokens tokens;
        private int next;
        private int nest;
        private Select select;
        private boolean mayAggregate;

        Text(Tokens tokens, int size) {
            this.tokens = tokens;
            // Each EXPR has a byte of its own.
            code = new Code(Math.min(EXPR_LIMIT, size));
            leaves = new Source[LEAF_LIMIT];
            top = new Query(new Select());
        }

        void read() {
            isUnbounded = accept(UNBOUNDED);
            top = readQuery();
            expect(TEXT_END);
        }

        int columnType(int column) {
            return top.items.has(column) ? top.items.types[column] : 0;
        }

        int visibleRows(Streams streams) {
            int total = 0;
            for (int i = 0; i < leafCount && i < leaves.length; i++) {
                for (int p = 0; p < ROW_LIMIT && leaves[i] != null; p++) {
                    total += streams.shows(leaves[i].stream, p, leaves[i].keep) ? 1 : 0;
                }
            }
            return total;
        }

        void refuse(int newFault, int newPlace) {
            if (fault == 0) {
                fault = newFault;
                place = newPlace;
            }
        }

        private int kind() {
            return fault != 0 || next >= tokens.kinds.length ? BAD : tokens.kinds[next];
        }

        private int here() {
            return next < tokens.places.length ? tokens.places[next] : 0;
        }

        private long number() {
            return next < tokens.numbers.length ? tokens.numbers[next] : 0;
        }

        private boolean accept(int wanted) {
            boolean isThere = kind() == wanted;
            next += isThere ? 1 : 0;
            return isThere;
        }

        private void expect(int wanted) {
            if (kind() == wanted) {
                next++;
            } else {
                refuse(FAULT_TOKEN, here());
            }
        }

        private long readName() {
            long name = number();
            expect(NAME);
            return name;
        }

        private long readNumber(long most) {
            long number = number();
            if (kind() == NUMBER && number > most) {
                refuse(FAULT_TOKEN, here());
            }
            expect(NUMBER);
            return number;
        }

        private Query readQuery() {
            Query query = new Query(readSelect());
            for (int n = 0; n < TAPE_SIZE && beginsSet(kind()); n++) {
                int word = kind();
                int wordPlace = here();
                next++;
                boolean isAll = word == UNION && accept(ALL);
                Select right = readSelect();
                right.set = isAll ? ALL : word;
                right.setPlace = wordPlace;
                query.selects.add(right);
            }
            if (kind() == ORDER) {
                readOrder(query);
            }
            return query;
        }

        private static boolean beginsSet(int kind) {
            return kind == UNION || kind == EXCEPT || kind == INTERSECT;
        }

        private void readOrder(Query query) {
            Columns orders = new Columns();
            query.orders = orders;
            query.orderPlace = here();
            expect(ORDER);
            expect(BY);
            mayAggregate = false;
            boolean isMore = true;
            for (int n = 0; n < TAPE_SIZE && isMore; n++) {
                refuseNinth(orders.isFull(), true);
                int root = readExpr();
                orders.add(root, NO_NAME, accept(DESC) ? 1 : 0, NUMBER_TYPE);
                isMore = accept(COMMA);
            }
            expect(LIMIT);
            query.limit = (int) Math.min(readNumber(LIMIT_LIMIT), LIMIT_LIMIT);
        }

        /** What can not begin another one is no token that may stand there, rather than one too many. */
        private void refuseNinth(boolean isFull, boolean isWhole) {
            if (isFull) {
                refuse(beginsExpr(kind(), isWhole) ? FAULT_MUCH : FAULT_TOKEN, here());
            }
        }

        private boolean beginsExpr(int kind, boolean isWhole) {
            switch (kind) {
                case MINUS:
                case NUMBER:
                case NULL:
                case TRUE:
                case FALSE:
                case NAME:
                case TIME:
                case OPEN:
                case CASE:
                case SPAN:
                    return true;
                case NOT:
                    return isWhole;
                case COUNT:
                case SUM:
                case MIN:
                case MAX:
                    return mayAggregate;
                default:
                    return false;
            }
        }

        private Select readSelect() {
            Select outer = select;
            Select mine = new Select();
            select = mine;
            expect(SELECT);
            mine.distinctPlace = here();
            mine.isDistinct = accept(DISTINCT);
            mayAggregate = true;
            boolean isMore = true;
            for (int n = 0; n < TAPE_SIZE && isMore; n++) {
                readItem(mine.items);
                isMore = accept(COMMA);
            }
            expect(FROM);
            readSources(mine);
            mayAggregate = false;
            if (accept(WHERE)) {
                mine.where = readExpr();
            }
            if (kind() == GROUP) {
                readGroups(mine);
            }
            mayAggregate = true;
            if (accept(HAVING)) {
                mine.having = readExpr();
            }
            select = outer;
            return mine;
        }

        private void readItem(Columns items) {
            refuseNinth(items.isFull(), true);
            int begin = here();
            int root = readExpr();
            long name = NO_NAME;
            if (accept(AS)) {
                name = readName();
            } else if (code.has(root) && code.kinds[root] == NAME && code.places[root] == begin) {
                name = code.numbers[root];
            }
            items.add(root, name, 0, NUMBER_TYPE);
        }

        private void readGroups(Select mine) {
            mine.hasGroups = true;
            mine.groupPlace = here();
            expect(GROUP);
            expect(BY);
            boolean isMore = true;
            for (int n = 0; n < TAPE_SIZE && isMore; n++) {
                refuseNinth(mine.groups.isFull(), true);
                int root = readExpr();
                expect(AS);
                int namePlace = here();
                mine.groups.add(root, readName(), namePlace, NUMBER_TYPE);
                isMore = accept(COMMA);
            }
        }

        private void readSources(Select mine) {
            addSource(mine, readSource());
            for (int n = 0; n < TAPE_SIZE && (kind() == JOIN || kind() == LEFT); n++) {
                boolean isOuter = accept(LEFT);
                int joinPlace = here();
                expect(JOIN);
                Source source = readSource();
                source.isOuter = isOuter;
                source.joinPlace = joinPlace;
                expect(ON);
                mayAggregate = false;
                source.on = readExpr();
                addSource(mine, source);
            }
        }

        /** Each SOURCE has a leaf, so a text with more of them than leaves has its fault before this one. */
        private static void addSource(Select mine, Source source) {
            if (mine.sourceCount < mine.sources.length) {
                mine.sources[mine.sourceCount] = source;
                mine.sourceCount++;
            }
        }

        private Source readSource() {
            Source source = new Source();
            source.place = here();
            if (kind() == OPEN) {
                deepen();
                expect(OPEN);
                source.inner = readQuery();
                source.closing = here();
                expect(CLOSE);
                nest--;
            } else {
                readLeaf(source);
            }
            expect(AS);
            source.namePlace = here();
            source.name = readName();
            if (source.inner == null && accept(KEEP)) {
                source.keep = readNumber(Long.MAX_VALUE);
            }
            return source;
        }

        private void readLeaf(Source source) {
            long digit = number() - FIRST_STREAM_NAME;
            if (kind() != NAME || digit < 0 || digit > 9) {
                refuse(FAULT_TOKEN, here());
            } else if (leafCount >= leaves.length) {
                refuse(FAULT_MUCH, here());
            } else {
                source.stream = (int) digit;
                leaves[leafCount] = source;
                leafCount++;
                next++;
            }
        }

        private void deepen() {
            if (nest >= NEST_LIMIT) {
                refuse(FAULT_MUCH, here());
            }
            nest++;
        }

        /** Counts an EXPR; met is where one too many is told. */
        private int complete(int kind, int first, int begin, int met, int partCount) {
            if (fault == 0 && code.size >= EXPR_LIMIT) {
                refuse(FAULT_MUCH, met);
            }
            return fault != 0 ? NONE : code.add(kind, first, begin, partCount);
        }

        /** Told is the node of the whole EXPR, which is the latest one. */
        private int readExpr() {
            int first = code.size;
            int begin = here();
            readConjunction();
            for (int n = 0; n < TAPE_SIZE && kind() == OR; n++) {
                int met = here();
                next++;
                readConjunction();
                complete(OR, first, begin, met, 2);
            }
            return code.size - 1;
        }

        private void readConjunction() {
            int first = code.size;
            int begin = here();
            readNegation();
            for (int n = 0; n < TAPE_SIZE && kind() == AND; n++) {
                int met = here();
                next++;
                readNegation();
                complete(AND, first, begin, met, 2);
            }
        }

        private void readNegation() {
            if (kind() != NOT) {
                readTest();
                return;
            }
            int first = code.size;
            int begin = here();
            deepen();
            accept(NOT);
            if (fault == 0) {
                readNegation();
            }
            nest--;
            complete(NOT, first, begin, begin, 1);
        }

        private void readTest() {
            int first = code.size;
            int begin = here();
            readSum();
            int met = here();
            int kind = kind();
            switch (kind) {
                case EQUAL:
                case UNLIKE:
                case LESS:
                case AT_MOST:
                case MORE:
                case AT_LEAST:
                    next++;
                    readSum();
                    complete(kind, first, begin, met, 2);
                    break;
                case IS:
                    next++;
                    int act = accept(NOT) ? IS_NOT : IS;
                    expect(NULL);
                    complete(act, first, begin, met, 1);
                    break;
                case NOT:
                    next++;
                    readList(NOT_IN, first, begin, met);
                    break;
                case IN:
                    readList(IN, first, begin, met);
                    break;
                default:
                    break;
            }
        }

        private void readList(int kind, int first, int begin, int met) {
            expect(IN);
            expect(OPEN);
            int count = 0;
            boolean isMore = true;
            for (int n = 0; n < TAPE_SIZE && isMore; n++) {
                refuseNinth(count >= LIST_LIMIT, false);
                readSum();
                count++;
                isMore = accept(COMMA);
            }
            expect(CLOSE);
            complete(kind, first, begin, met, count + 1);
        }

        private void readSum() {
            int first = code.size;
            int begin = here();
            readPart();
            for (int n = 0; n < TAPE_SIZE && (kind() == PLUS || kind() == MINUS); n++) {
                int kind = kind();
                int met = here();
                next++;
                readPart();
                complete(kind, first, begin, met, 2);
            }
        }

        private void readPart() {
            int first = code.size;
            int begin = here();
            readSign();
            for (int n = 0; n < TAPE_SIZE && (kind() == STAR || kind() == SLASH || kind() == PERCENT); n++) {
                int kind = kind();
                int met = here();
                next++;
                readSign();
                complete(kind, first, begin, met, 2);
            }
        }

        private void readSign() {
            if (kind() != MINUS) {
                readOne();
                return;
            }
            int first = code.size;
            int begin = here();
            deepen();
            accept(MINUS);
            if (fault == 0) {
                readSign();
            }
            nest--;
            complete(NEGATE, first, begin, begin, 1);
        }

        private void readOne() {
            switch (kind()) {
                case NUMBER:
                case NULL:
                case TRUE:
                case FALSE:
                    readLiteral();
                    break;
                case NAME:
                case TIME:
                    readColumn();
                    break;
                case OPEN:
                    deepen();
                    accept(OPEN);
                    readExpr();
                    expect(CLOSE);
                    nest--;
                    break;
                case CASE:
                    readCase();
                    break;
                case SPAN:
                    readSpan();
                    break;
                case COUNT:
                case SUM:
                case MIN:
                case MAX:
                    readAggregate();
                    break;
                default:
                    refuse(FAULT_TOKEN, here());
                    break;
            }
        }

        private void readLiteral() {
            int kind = kind();
            int begin = here();
            long number = number();
            next++;
            int node = complete(kind, code.size, begin, begin, 0);
            if (code.has(node)) {
                code.numbers[node] = number;
            }
        }

        private void readColumn() {
            int begin = here();
            boolean isTime = kind() == TIME;
            long name = isTime ? TIME_NAME : number();
            long owner = NO_NAME;
            next++;
            if (!isTime && accept(DOT)) {
                owner = name;
                name = kind() == TIME ? TIME_NAME : number();
                if (!accept(TIME)) {
                    expect(NAME);
                }
            }
            int node = complete(NAME, code.size, begin, begin, 0);
            if (code.has(node)) {
                code.numbers[node] = name;
                code.owners[node] = owner;
            }
        }

        private void readCase() {
            int first = code.size;
            int begin = here();
            deepen();
            accept(CASE);
            expect(WHEN);
            readExpr();
            expect(THEN);
            readExpr();
            expect(ELSE);
            readExpr();
            expect(END);
            nest--;
            complete(CASE, first, begin, begin, 3);
        }

        private void readSpan() {
            int first = code.size;
            int begin = here();
            deepen();
            accept(SPAN);
            expect(OPEN);
            readExpr();
            expect(COMMA);
            readExpr();
            expect(CLOSE);
            nest--;
            complete(SPAN, first, begin, begin, 2);
        }

        private void readAggregate() {
            int kind = kind();
            int first = code.size;
            int begin = here();
            Select mine = select;
            if (!mayAggregate || mine == null) {
                refuse(FAULT_TOKEN, begin);
                return;
            }
            if (mine.aggregateCount >= AGGREGATE_LIMIT) {
                refuse(FAULT_MUCH, begin);
            }
            deepen();
            accept(kind);
            expect(OPEN);
            mayAggregate = false;
            boolean isAll = kind == COUNT && accept(STAR);
            if (!isAll) {
                readExpr();
            }
            mayAggregate = true;
            expect(CLOSE);
            nest--;
            int node = complete(isAll ? COUNT_ALL : kind, first, begin, begin, isAll ? 0 : 1);
            noteAggregate(mine, node, first);
        }

        private void noteAggregate(Select mine, int node, int first) {
            if (!code.has(node) || mine.aggregateCount >= mine.aggregates.length) {
                return;
            }
            mine.aggregates[mine.aggregateCount] = node;
            mine.aggregateCount++;
            if (code.has(first) && first < node) {
                code.skips[first] = node;
            }
        }
    }

    /** Looks through a text that is well read: its names, types and bounds. */
    private static final class Checker {
        private final Text text;
        private final Streams streams;
        private final Code code;
        /** The SELECT whose SOURCES are seen, as many as are told. */
        private Select select;
        private int seen;
        /** The columns that are seen outside of aggregates in the SOURCES' stead, or null. */
        private Columns names;

        Checker(Text text, Streams streams) {
            this.text = text;
            this.streams = streams;
            code = text.code;
        }

        private boolean isFaulty() {
            return text.fault != 0;
        }

        private void checkQuery(Query query) {
            for (int i = 0; i < query.selects.size() && !isFaulty(); i++) {
                Select next = query.selects.get(i);
                checkSelect(next);
                query.isUnkept = query.isUnkept || next.isUnkept;
                if (i > 0) {
                    checkSet(query, next);
                }
            }
            if (query.orders != null && !isFaulty()) {
                checkOrder(query, query.orders);
            }
        }

        private void checkBound(boolean isUnkept, int wordPlace) {
            if (isUnkept && !text.isUnbounded) {
                text.refuse(FAULT_UNBOUNDED, wordPlace);
            }
        }

        private void checkSet(Query query, Select right) {
            if (right.set != ALL) {
                checkBound(query.isUnkept, right.setPlace);
            }
            if (!query.items.sameTypes(right.items)) {
                text.refuse(FAULT_COLUMNS, right.setPlace);
            }
        }

        private void checkOrder(Query query, Columns orders) {
            checkBound(query.isUnkept, query.orderPlace);
            names = query.items;
            checkColumns(orders);
        }

        private void checkSelect(Select mine) {
            for (int i = 0; i < mine.sourceCount && i < mine.sources.length && !isFaulty(); i++) {
                checkSource(mine, i);
            }
            select = mine;
            seen = mine.sourceCount;
            names = null;
            checkTruth(mine.where);
            checkGroups(mine);
            if (mine.isGrouped()) {
                names = mine.groups;
            }
            checkTruth(mine.having);
            checkColumns(mine.items);
            if (mine.isDistinct) {
                checkBound(mine.isUnkept, mine.distinctPlace);
            }
        }

        private void checkSource(Select mine, int number) {
            Source source = mine.sources[number];
            if (source == null) {
                return;
            }
            if (source.inner != null) {
                checkInner(source, source.inner);
                mine.isUnkept = mine.isUnkept || source.inner.isUnkept;
            } else {
                checkLeaf(source);
                mine.isUnkept = mine.isUnkept || source.keep < 0;
            }
            for (int i = 0; i < number; i++) {
                Source other = mine.sources[i];
                if (other != null && other.name == source.name) {
                    text.refuse(FAULT_NAME, source.namePlace);
                }
            }
            if (number > 0) {
                checkBound(mine.isUnkept, source.joinPlace);
                Source last = mine.sources[number - 1];
                source.start = last == null ? 0 : last.start + last.columns.size;
                select = mine;
                seen = number + 1;
                names = null;
                checkTruth(source.on);
            }
        }

        private void checkLeaf(Source source) {
            if (!streams.exists(source.stream)) {
                text.refuse(FAULT_NAME, source.place);
                return;
            }
            for (int i = 1; i <= streams.columnCount(source.stream); i++) {
                source.columns.add(NONE, i, 0, NUMBER_TYPE);
            }
            source.columns.add(NONE, TIME_NAME, 0, NUMBER_TYPE);
        }

        private void checkInner(Source source, Query inner) {
            checkQuery(inner);
            if (isFaulty()) {
                return;
            }
            Columns items = inner.items;
            if (!items.allNamedApart()) {
                text.refuse(FAULT_NAME, source.closing);
            }
            for (int i = 0; i < items.size && items.has(i); i++) {
                source.columns.add(NONE, items.names[i], 0, items.types[i]);
            }
        }

        private void checkGroups(Select mine) {
            Columns groups = mine.groups;
            if (mine.hasGroups) {
                checkBound(mine.isUnkept, mine.groupPlace);
            } else if (mine.aggregateCount > 0 && code.has(mine.aggregates[0])) {
                checkBound(mine.isUnkept, code.places[mine.aggregates[0]]);
            }
            for (int i = 0; i < groups.size && groups.has(i); i++) {
                checkExpr(groups.roots[i]);
                groups.settleType(i, typeOf(groups.roots[i]));
                if (groups.find(groups.names[i], 0) < i) {
                    text.refuse(FAULT_NAME, groups.marks[i]);
                }
            }
            for (int i = 0; i < mine.aggregateCount && i < mine.aggregates.length; i++) {
                if (code.has(mine.aggregates[i])) {
                    code.slots[mine.aggregates[i]] = groups.size + i;
                }
            }
        }

        private void checkColumns(Columns columns) {
            for (int i = 0; i < columns.size && columns.has(i); i++) {
                checkExpr(columns.roots[i]);
                columns.settleType(i, typeOf(columns.roots[i]));
            }
        }

        private void checkTruth(int root) {
            checkExpr(root);
            if (code.has(root) && (typeOf(root) & TRUTH_TYPE) == 0) {
                text.refuse(FAULT_TYPE, code.places[root]);
            }
        }

        private int typeOf(int node) {
            return code.has(node) ? code.types[node] : ANY_TYPE;
        }

        /** Nodes stand behind their parts, so to go along them is to look at the parts first, from the left. */
        private void checkExpr(int root) {
            if (!code.has(root)) {
                return;
            }
            int aggregate = NONE;
            for (int i = code.firsts[root]; i <= root && !isFaulty(); i++) {
                if (code.skips[i] > i && code.skips[i] <= root) {
                    aggregate = code.skips[i];
                }
                if (code.kinds[i] != NAME) {
                    checkAct(i);
                } else if (names == null || i < aggregate) {
                    findInSources(i);
                } else {
                    findInNames(i, names);
                }
            }
        }

        private void findInSources(int node) {
            int found = 0;
            for (int s = 0; select != null && s < seen && s < select.sources.length; s++) {
                Source source = select.sources[s];
                boolean isMeant = source != null
                    && (code.owners[node] == NO_NAME || code.owners[node] == source.name);
                int column = isMeant ? source.columns.find(code.numbers[node], 0) : NONE;
                if (isMeant && source.columns.has(column)) {
                    found++;
                    code.slots[node] = source.start + column;
                    code.types[node] = source.columns.types[column];
                }
            }
            refuseUnlessOne(found, node);
        }

        private void findInNames(int node, Columns columns) {
            int column = code.owners[node] == NO_NAME ? columns.find(code.numbers[node], 0) : NONE;
            if (!columns.has(column)) {
                refuseUnlessOne(0, node);
                return;
            }
            code.slots[node] = column;
            code.types[node] = columns.types[column];
            refuseUnlessOne(columns.find(code.numbers[node], column + 1) == NONE ? 1 : 2, node);
        }

        private void refuseUnlessOne(int found, int node) {
            if (found != 1) {
                text.refuse(found == 0 ? FAULT_NAME : FAULT_UNCLEAR, code.places[node]);
            }
        }

        private void checkAct(int node) {
            switch (code.kinds[node]) {
                case NUMBER:
                case COUNT:
                case COUNT_ALL:
                    code.types[node] = NUMBER_TYPE;
                    break;
                case NULL:
                    code.types[node] = ANY_TYPE;
                    break;
                case TRUE:
                case FALSE:
                case IS:
                case IS_NOT:
                    code.types[node] = TRUTH_TYPE;
                    break;
                case AND:
                case OR:
                case NOT:
                    wantParts(node, TRUTH_TYPE, TRUTH_TYPE);
                    break;
                case CASE:
                    checkCase(node);
                    break;
                case EQUAL:
                case UNLIKE:
                case LESS:
                case AT_MOST:
                case MORE:
                case AT_LEAST:
                case IN:
                case NOT_IN:
                    wantParts(node, NUMBER_TYPE, TRUTH_TYPE);
                    break;
                default:
                    wantParts(node, NUMBER_TYPE, NUMBER_TYPE);
                    break;
            }
        }

        /** The parts are met from the right, so the last wrong one is the first of them. */
        private void wantParts(int node, int wanted, int result) {
            int wrong = NONE;
            int part = node - 1;
            for (int n = 0; n < code.parts[node] && code.has(part); n++) {
                if ((code.types[part] & wanted) == 0) {
                    wrong = part;
                }
                part = code.firsts[part] - 1;
            }
            if (code.has(wrong)) {
                text.refuse(FAULT_TYPE, code.places[wrong]);
            }
            code.types[node] = result;
        }

        private void checkCase(int node) {
            int other = node - 1;
            int then = code.has(other) ? code.firsts[other] - 1 : NONE;
            int when = code.has(then) ? code.firsts[then] - 1 : NONE;
            if (!code.has(when)) {
                return;
            }
            if ((code.types[when] & TRUTH_TYPE) == 0) {
                text.refuse(FAULT_TYPE, code.places[when]);
            }
            if ((code.types[then] & code.types[other]) == 0) {
                text.refuse(FAULT_TYPE, code.places[other]);
            }
            code.types[node] = code.types[then] & code.types[other];
        }
    }

    /** Cells of rows, one behind another; it grows as it must. */
    private static final class Strip {
        private static final int FIRST_ROOM = 64;
        private long[] values;
        private byte[] blanks;
        private int[] order;
        private int[] spare;

        Strip() {
            values = new long[FIRST_ROOM];
            blanks = new byte[FIRST_ROOM];
            order = new int[ROW_LIMIT];
            spare = new int[ROW_LIMIT];
        }

        void reserve(int cells) {
            if (cells > values.length) {
                values = Arrays.copyOf(values, 2 * cells);
                blanks = Arrays.copyOf(blanks, 2 * cells);
            }
        }

        private boolean holds(int cell) {
            return cell >= 0 && cell < values.length && cell < blanks.length;
        }

        long valueOf(int cell) {
            return holds(cell) ? values[cell] : 0;
        }

        boolean isBlank(int cell) {
            return !holds(cell) || blanks[cell] != 0;
        }

        void put(int cell, long v, int blank) {
            reserve(cell + 1);
            set(cell, v, blank);
        }

        /** For a cell that has its room. */
        void set(int cell, long v, int blank) {
            if (holds(cell)) {
                values[cell] = blank != 0 ? 0 : v;
                blanks[cell] = (byte) blank;
            }
        }

        void copy(int from, int to, int cells) {
            reserve(Math.max(from, to) + cells);
            if (cells > 0 && holds(from) && holds(to) && holds(from + cells - 1) && holds(to + cells - 1)) {
                System.arraycopy(values, from, values, to, cells);
                System.arraycopy(blanks, from, blanks, to, cells);
            }
        }

        /** Has another's first cells from now on. */
        void take(Strip other, int cells) {
            reserve(cells);
            if (cells > 0 && holds(cells - 1) && other.holds(cells - 1)) {
                System.arraycopy(other.values, 0, values, 0, cells);
                System.arraycopy(other.blanks, 0, blanks, 0, cells);
            }
        }

        /** By cells from the left, NULL first; where down has a cell's bit, the other way. */
        int compareRows(int mine, Strip other, int theirs, int width, int down) {
            for (int i = 0; i < width; i++) {
                if (!holds(mine + i) || !other.holds(theirs + i)) {
                    return 0;
                }
                int sign = other.blanks[theirs + i] - blanks[mine + i];
                if (sign == 0) {
                    sign = Long.compare(values[mine + i], other.values[theirs + i]);
                }
                if (sign != 0) {
                    return i < LIST_LIMIT && (down >> i & 1) != 0 ? -sign : sign;
                }
            }
            return 0;
        }

        /** How often a row is there from one on, where like rows stand side by side; at least once. */
        int repeats(int from, int size, int width) {
            int often = 1;
            while (from + often < size && compareRows(from * width, this, (from + often) * width, width, 0) == 0) {
                often++;
            }
            return often;
        }

        /** Uses the cells behind these rows, too. */
        void sort(int start, int size, int width, int down) {
            if (size < 2) {
                return;
            }
            if (order.length < size || spare.length < size) {
                order = new int[2 * size];
                spare = new int[2 * size];
            }
            for (int i = 0; i < size; i++) {
                order[i] = start + i * width;
            }
            for (int run = 1; run < size; run *= 2) {
                mergeRuns(run, size, width, down);
            }
            int scratch = start + size * width;
            for (int i = 0; i < size; i++) {
                copy(order[i], scratch + i * width, width);
            }
            copy(scratch, start, size * width);
        }

        private void mergeRuns(int run, int size, int width, int down) {
            int to = 0;
            for (int left = 0; left < size; left += 2 * run) {
                int middle = Math.min(left + run, size);
                int end = Math.min(left + 2 * run, size);
                int i = left;
                int j = middle;
                for (; to < end && to < spare.length; to++) {
                    boolean fromRight = i >= middle
                        || j < end && compareRows(order[j], this, order[i], width, down) < 0;
                    spare[to] = fromRight ? order[j] : order[i];
                    j += fromRight ? 1 : 0;
                    i += fromRight ? 0 : 1;
                }
            }
            int[] merged = spare;
            spare = order;
            order = merged;
        }

        /** Each of the sorted rows once: how many stay. */
        int once(int start, int size, int width) {
            int kept = 0;
            for (int i = 0; i < size; i++) {
                int from = start + i * width;
                int last = start + (kept - 1) * width;
                if (kept == 0 || compareRows(last, this, from, width, 0) != 0) {
                    copy(from, start + kept * width, width);
                    kept++;
                }
            }
            return kept;
        }
    }

    /**
     * Computes relations. Each is written from a given cell on and told by how many rows it has; all cells behind
     * are free to use meanwhile.
     */
    private static final class Runner {
        private final Streams streams;
        private final Code code;
        private final Strip strip;

        Runner(Streams streams, Code code, Strip strip) {
            this.streams = streams;
            this.code = code;
            this.strip = strip;
        }

        private int runQuery(Query query, int start) {
            int size = 0;
            int width = query.items.size;
            for (int i = 0; i < query.selects.size(); i++) {
                Select next = query.selects.get(i);
                int behind = start + size * width;
                int added = runSelect(next, behind);
                size = i == 0 ? added : combine(next.set, start, size, added, width);
            }
            return query.orders == null ? size : order(query.orders, query.limit, start, size, width);
        }

        private int combine(int set, int start, int left, int right, int width) {
            int size = left + right;
            if (set == ALL) {
                return size;
            }
            if (set != UNION) {
                size = sift(set == INTERSECT, start, left, right, width);
            }
            strip.sort(start, size, width, 0);
            return strip.once(start, size, width);
        }

        /** Those rows of the left stay that the right one has, or has not. */
        private int sift(boolean ifFound, int start, int left, int right, int width) {
            int rightStart = start + left * width;
            int kept = 0;
            for (int i = 0; i < left; i++) {
                int from = start + i * width;
                boolean found = false;
                for (int j = 0; j < right && !found; j++) {
                    found = strip.compareRows(from, strip, rightStart + j * width, width, 0) == 0;
                }
                if (found == ifFound) {
                    strip.copy(from, start + kept * width, width);
                    kept++;
                }
            }
            return kept;
        }

        private int order(Columns orders, int limit, int start, int size, int width) {
            int wide = orders.size + width;
            int scratch = start + size * width;
            for (int i = 0; i < size; i++) {
                int to = scratch + i * wide;
                computeAll(orders, start + i * width, to);
                strip.copy(start + i * width, to + orders.size, width);
            }
            strip.sort(scratch, size, wide, orders.markBits());
            int kept = Math.min(size, limit);
            for (int i = 0; i < kept; i++) {
                strip.copy(scratch + i * wide + orders.size, start + i * width, width);
            }
            return kept;
        }

        private void computeAll(Columns columns, int base, int to) {
            for (int i = 0; i < columns.size && columns.has(i); i++) {
                code.compute(columns.roots[i], strip, base);
                strip.put(to + i, code.resultValue(), code.resultBlank());
            }
        }

        private int runSelect(Select select, int start) {
            int size = joinSources(select, start);
            int width = select.joinedWidth();
            size = filter(select.where, start, size, width);
            if (select.isGrouped()) {
                size = group(select, start, size, width);
                width = select.groups.size + select.aggregateCount;
            }
            size = filter(select.having, start, size, width);
            project(select.items, start, size, width);
            if (!select.isDistinct) {
                return size;
            }
            strip.sort(start, size, select.items.size, 0);
            return strip.once(start, size, select.items.size);
        }

        private int joinSources(Select select, int start) {
            int size = 0;
            for (int i = 0; i < select.sourceCount && i < select.sources.length; i++) {
                Source source = select.sources[i];
                if (source != null) {
                    int behind = start + size * source.start;
                    int added = runSource(source, behind);
                    size = i == 0 ? added : join(source, start, size, added);
                }
            }
            return size;
        }

        private int runSource(Source source, int start) {
            if (source.inner != null) {
                return runQuery(source.inner, start);
            }
            int size = 0;
            for (int p = 0; p < ROW_LIMIT; p++) {
                if (streams.shows(source.stream, p, source.keep)) {
                    streams.copyRow(source.stream, p, strip, start + size * source.columns.size);
                    size++;
                }
            }
            return size;
        }

        /** The right rows stand behind the left ones; the pairs go behind both, and then over both. */
        private int join(Source right, int start, int leftSize, int rightSize) {
            int leftWidth = right.start;
            int rightWidth = right.columns.size;
            int width = leftWidth + rightWidth;
            int rightStart = start + leftSize * leftWidth;
            int out = rightStart + rightSize * rightWidth;
            int size = 0;
            for (int i = 0; i < leftSize; i++) {
                int sizeBefore = size;
                for (int j = 0; j < rightSize; j++) {
                    int to = out + size * width;
                    strip.copy(start + i * leftWidth, to, leftWidth);
                    strip.copy(rightStart + j * rightWidth, to + leftWidth, rightWidth);
                    size += code.compute(right.on, strip, to) ? 1 : 0;
                }
                if (right.isOuter && size == sizeBefore) {
                    int to = out + size * width;
                    strip.copy(start + i * leftWidth, to, leftWidth);
                    blankOut(to + leftWidth, rightWidth);
                    size++;
                }
            }
            strip.copy(out, start, size * width);
            return size;
        }

        private void blankOut(int from, int cells) {
            for (int i = 0; i < cells; i++) {
                strip.put(from + i, 0, 1);
            }
        }

        private int filter(int root, int start, int size, int width) {
            if (root < 0) {
                return size;
            }
            int kept = 0;
            for (int i = 0; i < size; i++) {
                if (code.compute(root, strip, start + i * width)) {
                    strip.copy(start + i * width, start + kept * width, width);
                    kept++;
                }
            }
            return kept;
        }

        private void project(Columns items, int start, int size, int width) {
            int scratch = start + size * width;
            for (int i = 0; i < size; i++) {
                computeAll(items, start + i * width, scratch + i * items.size);
            }
            strip.copy(scratch, start, size * items.size);
        }

        /** The rows become the groups' keys with what the aggregates take in; sorted, a group stands side by side. */
        private int group(Select select, int start, int size, int width) {
            int keys = select.groups.size;
            int wide = keys + select.aggregateCount;
            int scratch = start + size * width;
            for (int i = 0; i < size; i++) {
                computeAll(select.groups, start + i * width, scratch + i * wide);
                computeInsides(select, start + i * width, scratch + i * wide + keys);
            }
            strip.sort(scratch, size, wide, 0);
            int out = scratch + size * wide;
            strip.reserve(out + Math.max(size, 1) * wide);
            int groups = 0;
            int first = 0;
            for (int i = 1; i <= size; i++) {
                int from = scratch + first * wide;
                if (i == size || strip.compareRows(from, strip, scratch + i * wide, keys, 0) != 0) {
                    fold(select, from, i - first, out + groups * wide);
                    groups++;
                    first = i;
                }
            }
            if (groups == 0 && keys == 0) {
                fold(select, scratch, 0, out);
                groups = 1;
            }
            strip.copy(out, start, groups * wide);
            return groups;
        }

        private void computeInsides(Select select, int base, int to) {
            for (int i = 0; i < select.aggregateCount && i < select.aggregates.length; i++) {
                int node = select.aggregates[i];
                if (code.has(node) && code.kinds[node] == COUNT_ALL) {
                    strip.put(to + i, 1, 0);
                } else {
                    code.compute(node - 1, strip, base);
                    strip.put(to + i, code.resultValue(), code.resultBlank());
                }
            }
        }

        private void fold(Select select, int from, int size, int to) {
            int keys = select.groups.size;
            strip.copy(from, to, keys);
            for (int i = 0; i < select.aggregateCount && i < select.aggregates.length; i++) {
                int node = select.aggregates[i];
                int kind = code.has(node) ? code.kinds[node] : COUNT;
                foldOne(kind, from + keys + i, size, keys + select.aggregateCount, to + keys + i);
            }
        }

        private void foldOne(int kind, int from, int size, int stride, int to) {
            long count = 0;
            long sum = 0;
            long least = Long.MAX_VALUE;
            long most = Long.MIN_VALUE;
            for (int i = 0; i < size; i++) {
                if (!strip.isBlank(from + i * stride)) {
                    long v = strip.valueOf(from + i * stride);
                    count++;
                    sum += v;
                    least = Math.min(least, v);
                    most = Math.max(most, v);
                }
            }
            if (kind == COUNT || kind == COUNT_ALL) {
                strip.set(to, count, 0);
            } else {
                long folded = kind == SUM ? sum : kind == MIN ? least : most;
                strip.set(to, folded, count == 0 ? 1 : 0);
            }
        }
    }
}
