import java.util.Arrays;
import java.util.NoSuchElementException;

/** Filters over documents: rows of tokens that make, of one value and variables, a row of values. */
public final class FilterBench {
    private static final int SLOTS = 8;
    private static final int STRINGS = 8;
    private static final int FILTERS = 4;
    private static final int VARIABLES = 4;
    private static final int FIRST_LETTER = 32;
    private static final int LAST_LETTER = 126;

    private final Values values;
    private final int[] slots;
    private final int[] strings;
    private final Filter[] filters;
    private final Runner runner;
    private final Row row;
    private int outputs;
    private int fault;
    private int steps;
    private int errorRuns;
    private int roomlessRuns;

    public FilterBench() {
        values = new Values();
        slots = new int[SLOTS];
        Arrays.fill(slots, Values.NULL);
        strings = new int[STRINGS];
        Arrays.fill(strings, Values.NO_LETTERS);
        filters = new Filter[FILTERS];
        for (int k = 0; k < FILTERS; k++) {
            filters[k] = new Filter();
        }
        runner = new Runner(values, strings, filters[0]);
        row = new Row();
        fault = Values.NULL;
    }

    public int letter(int string, int character) throws IllegalArgumentException, NoSuchElementException,
            UnsupportedOperationException, IllegalStateException {
        require(isBelow(string, STRINGS) && character >= FIRST_LETTER && character <= LAST_LETTER);
        if (values.lengthOf(strings[string]) == Values.MOST_ITEMS) {
            throw new IllegalStateException("the string is full");
        }
        strings[string] = values.longer(strings[string], character);
        return values.lengthOf(strings[string]);
    }

    public int token(int filter, int op, int a) throws IllegalArgumentException, NoSuchElementException,
            UnsupportedOperationException, IllegalStateException {
        require(isBelow(filter, FILTERS) && isBelow(op, Op.OPS) && Op.takes(op, a));
        if (filters[filter].size() == Filter.MOST_TOKENS) {
            throw new IllegalStateException("the filter is full");
        }
        filters[filter].add(op, a);
        return filters[filter].size();
    }

    public int wipe(int what, int number) throws IllegalArgumentException, NoSuchElementException,
            UnsupportedOperationException, IllegalStateException {
        require(what == 0 && isBelow(number, FILTERS) || what == 1 && isBelow(number, STRINGS));
        if (what == 0) {
            return filters[number].cleared();
        }
        int had = values.lengthOf(strings[number]);
        strings[number] = Values.NO_LETTERS;
        return had;
    }

    public int run(int filter, int slot) throws IllegalArgumentException, NoSuchElementException,
            UnsupportedOperationException, IllegalStateException {
        require(isBelow(filter, FILTERS) && isBelow(slot, SLOTS));
        if (!filters[filter].isRight()) {
            throw new NoSuchElementException("the filter is not right");
        }
        forgetLastRun();
        // Want of ROOM leaves by an exception from deep inside, so what it leaves behind is set before the work.
        roomlessRuns++;
        runner.start(filters[filter]);
        runner.work(0, slots[slot], 0, row);
        roomlessRuns--;
        outputs = row.size();
        steps = runner.steps();
        if (row.isEnded()) {
            fault = row.error();
            errorRuns++;
            throw new UnsupportedOperationException("an error ended the run");
        }
        return outputs;
    }

    public int keep(int slot, int k) throws IllegalArgumentException, NoSuchElementException,
            UnsupportedOperationException, IllegalStateException {
        require(isBelow(slot, SLOTS));
        if (k < -1 || k >= outputs) {
            throw new NoSuchElementException("there is no such output");
        }
        slots[slot] = k < 0 ? fault : row.at(k);
        return values.sizeOf(slots[slot]);
    }

    public int kind(int slot, int i) throws IllegalArgumentException, NoSuchElementException,
            UnsupportedOperationException, IllegalStateException {
        requirePart(slot, i);
        return values.kindOf(values.partAt(slots[slot], i));
    }

    public int length(int slot, int i) throws IllegalArgumentException, NoSuchElementException,
            UnsupportedOperationException, IllegalStateException {
        requirePart(slot, i);
        return values.lengthOf(values.partAt(slots[slot], i));
    }

    public int number(int slot, int i, boolean scale) throws IllegalArgumentException, NoSuchElementException,
            UnsupportedOperationException, IllegalStateException {
        requirePart(slot, i);
        int part = values.partAt(slots[slot], i);
        if (values.kindOf(part) != Kind.NUMBER) {
            return 0;
        }
        return scale ? values.scaleOf(part) : values.wholeOf(part);
    }

    public int character(int slot, int i, int k, boolean name) throws IllegalArgumentException,
            NoSuchElementException, UnsupportedOperationException, IllegalStateException {
        requirePart(slot, i);
        int text = name ? values.nameOfPart(slots[slot], i) : values.partAt(slots[slot], i);
        if (values.kindOf(text) != Kind.TEXT || !isBelow(k, values.lengthOf(text))) {
            throw new NoSuchElementException("there is no such character");
        }
        return values.letterAt(text, k);
    }

    public int order(int a, int b) throws IllegalArgumentException, NoSuchElementException,
            UnsupportedOperationException, IllegalStateException {
        require(isBelow(a, SLOTS) && isBelow(b, SLOTS));
        return values.compared(slots[a], slots[b]);
    }

    public int count(int what) {
        switch (what) {
            case 0: return outputs;
            case 1: return steps;
            case 2: return errorRuns;
            case 3: return roomlessRuns;
            default: return -1;
        }
    }

    private void forgetLastRun() {
        outputs = 0;
        fault = Values.NULL;
        steps = 0;
        row.clear();
        values.turnOver();
        for (int k = 0; k < SLOTS; k++) {
            slots[k] = values.moved(slots[k]);
        }
        for (int k = 0; k < STRINGS; k++) {
            strings[k] = values.moved(strings[k]);
        }
    }

    private void requirePart(int slot, int i) {
        require(isBelow(slot, SLOTS));
        if (!isBelow(i, values.sizeOf(slots[slot]))) {
            throw new NoSuchElementException("there is no such part");
        }
    }

    private static void require(boolean inRange) {
        if (!inRange) {
            throw new IllegalArgumentException("a number is out of range");
        }
    }

    private static boolean isBelow(int n, int end) {
        return n >= 0 && n < end;
    }

    /** The kinds of values, numbered by their ORDER. */
    private static final class Kind {
        static final int NULL = 0;
        static final int FALSE = 1;
        static final int TRUE = 2;
        static final int NUMBER = 3;
        static final int TEXT = 4;
        static final int ARRAY = 5;
        static final int OBJECT = 6;
    }

    /** The ops of tokens. */
    private static final class Op {
        static final int SELF = 0;
        static final int FIELD = 1;
        static final int INDEX = 2;
        static final int EACH = 3;
        static final int PIPE = 4;
        static final int COMMA = 5;
        static final int NUMBER = 6;
        static final int STRING = 7;
        static final int WORD = 8;
        static final int ARRAY = 9;
        static final int NOTHING = 10;
        static final int OBJECT = 11;
        static final int CALC = 12;
        static final int COMPARE = 13;
        static final int BOTH = 14;
        static final int EITHER = 15;
        static final int NOT = 16;
        static final int IF = 17;
        static final int TRY = 18;
        static final int OR = 19;
        static final int BIND = 20;
        static final int VARIABLE = 21;
        static final int REDUCE = 22;
        static final int LENGTH = 23;
        static final int KEYS = 24;
        static final int EMPTY = 25;
        static final int RAISE = 26;
        static final int SORT = 27;
        static final int SUM = 28;
        static final int RANGE = 29;
        static final int ALL = 30;
        static final int LIMIT = 31;
        static final int HAS = 32;
        static final int SELECT = 33;
        static final int FLOOR = 34;
        static final int OPS = 35;

        static boolean takes(int op, int a) {
            switch (op) {
                case FIELD: case STRING: case OBJECT: return isBelow(a, STRINGS);
                case BIND: case VARIABLE: case REDUCE: return isBelow(a, VARIABLES);
                case CALC: return isBelow(a, 4);
                case COMPARE: return isBelow(a, 6);
                case WORD: return isBelow(a, 3);
                case LIMIT: return isBelow(a, 10);
                default: return true;
            }
        }

        static int partsOf(int op) {
            switch (op) {
                case IF: case REDUCE:
                    return 3;
                case PIPE: case COMMA: case CALC: case COMPARE: case BOTH: case EITHER: case TRY: case OR: case BIND:
                    return 2;
                case INDEX: case ARRAY: case OBJECT: case RANGE: case LIMIT: case HAS: case SELECT:
                    return 1;
                default:
                    return 0;
            }
        }
    }

    /** A row of tokens, read as one expression. */
    private static final class Filter {
        static final int MOST_TOKENS = 32;
        static final int MOST_OUTER = 7;
        private static final int NOWHERE = MOST_TOKENS + 1;

        private final int[] ops = new int[MOST_TOKENS];
        private final int[] choices = new int[MOST_TOKENS];
        private final int[] ends = new int[MOST_TOKENS];
        private int size;

        int size() {
            return size;
        }

        void add(int op, int a) {
            ops[size] = op;
            choices[size] = a;
            size++;
        }

        int cleared() {
            int had = size;
            size = 0;
            return had;
        }

        boolean isRight() {
            return endOf(0, 0) == size;
        }

        int opAt(int at) {
            return ops[at];
        }

        int choiceAt(int at) {
            return choices[at];
        }

        int firstPart(int at) {
            return at + 1;
        }

        int secondPart(int at) {
            return ends[at + 1];
        }

        int thirdPart(int at) {
            return ends[ends[at + 1]];
        }

        /** Where the expression ends, which is also where the next part begins; NOWHERE if it is not RIGHT. */
        private int endOf(int at, int outer) {
            if (at >= size || outer > MOST_OUTER) {
                return NOWHERE;
            }
            int end = at + 1;
            for (int part = 0; part < Op.partsOf(ops[at]); part++) {
                end = endOf(end, outer + 1);
            }
            ends[at] = end;
            return end;
        }
    }

    /** A row of values, which may be ended by an ERROR. */
    private static final class Row {
        static final int MOST = 16;
        private static final int NO_ERROR = -1;

        private final int[] items = new int[MOST];
        private int size;
        private int error = NO_ERROR;

        void clear() {
            size = 0;
            error = NO_ERROR;
        }

        void put(int v) {
            if (size == MOST) {
                throw new IllegalStateException("no room in a row");
            }
            items[size] = v;
            size++;
        }

        int size() {
            return size;
        }

        int at(int k) {
            return items[k];
        }

        int[] items() {
            return items;
        }

        boolean isEnded() {
            return error != NO_ERROR;
        }

        int error() {
            return error;
        }

        void end(int v) {
            error = v;
        }

        /** The value of the ERROR, that ends the row no more. */
        int caught() {
            int value = error;
            error = NO_ERROR;
            return value;
        }

        /** The end of FOR EACH: an ERROR met on the way stands before the one that ended the row gone through. */
        void endAs(Row gone) {
            if (!isEnded()) {
                error = gone.error;
            }
        }
    }

    /**
     * All values of one bench, in one row of cells that is used again for every run: a value is the place of its
     * first cell, and never changes once it is made. Its cells are the head (kind, length, SIZE, DEPTH) and behind it
     * a NUMBER's M and S, a TEXT's characters, an ARRAY's items, or an OBJECT's values and then its names.
     */
    private static final class Values {
        static final int MOST_ITEMS = 12;
        static final int WRONG_KIND = -1;
        static final int REST_BY_ZERO = -2;
        private static final int NO_MEMBER = -1;
        private static final int MOST_MEMBERS = 6;
        private static final int MOST_SIZE = 24;
        private static final int MOST_DEPTH = 5;
        private static final int MOST_SCALE = 6;
        private static final int MOST_WHOLE = 999999999;
        private static final int[] POWERS = {1, 10, 100, 1000, 10000, 100000, 1000000};

        private static final int LENGTH = 1;
        private static final int SIZE = 2;
        private static final int DEPTH = 3;
        private static final int HEAD = 4;
        private static final int NUMBER_CELLS = HEAD + 2;

        // These values stand at the same places in both rows of cells, before all others.
        static final int NULL = Kind.NULL * HEAD;
        static final int FALSE = Kind.FALSE * HEAD;
        static final int TRUE = Kind.TRUE * HEAD;
        static final int NO_LETTERS = 3 * HEAD;
        private static final int SMALL_NUMBERS = 4 * HEAD;
        private static final int MOST_SMALL = Row.MOST;
        private static final int FREE = SMALL_NUMBERS + (MOST_SMALL + 1) * NUMBER_CELLS;
        private static final int FIRST_CELLS = 512;

        private final int[] items = new int[2 * MOST_ITEMS];
        private final int[] names = new int[2 * MOST_MEMBERS];
        private int[] cells = new int[FIRST_CELLS];
        private int[] before;
        private int top = FREE;

        Values() {
            for (int kind = Kind.NULL; kind <= Kind.TRUE; kind++) {
                setHead(kind * HEAD, kind, 0);
            }
            setHead(NO_LETTERS, Kind.TEXT, 0);
            for (int k = 0; k <= MOST_SMALL; k++) {
                setHead(small(k), Kind.NUMBER, 0);
                cells[small(k) + HEAD] = k;
            }
            before = cells.clone();
        }

        int kindOf(int v) {
            return cells[v];
        }

        int lengthOf(int v) {
            return cells[v + LENGTH];
        }

        int sizeOf(int v) {
            return cells[v + SIZE];
        }

        int wholeOf(int number) {
            return cells[number + HEAD];
        }

        int scaleOf(int number) {
            return cells[number + HEAD + 1];
        }

        int letterAt(int text, int k) {
            return cells[text + HEAD + k];
        }

        int itemAt(int v, int k) {
            return cells[v + HEAD + k];
        }

        int nameAt(int object, int k) {
            return cells[object + HEAD + cells[object + LENGTH] + k];
        }

        boolean hasParts(int v) {
            return kindOf(v) >= Kind.ARRAY;
        }

        boolean isGood(int v) {
            return kindOf(v) >= Kind.TRUE;
        }

        int partAt(int v, int i) {
            return found(v, i, false);
        }

        /** The name of PART i, or NULL if that is no member's value. */
        int nameOfPart(int v, int i) {
            return found(v, i, true);
        }

        private int found(int v, int i, boolean name) {
            int part = v;
            int label = NULL;
            int left = i;
            for (int level = 0; level < MOST_DEPTH && left > 0; level++) {
                left--;
                int k = 0;
                while (k < lengthOf(part) - 1 && left >= sizeOf(itemAt(part, k))) {
                    left -= sizeOf(itemAt(part, k));
                    k++;
                }
                label = kindOf(part) == Kind.OBJECT ? nameAt(part, k) : NULL;
                part = itemAt(part, k);
            }
            return name ? label : part;
        }

        /** Begins an empty row of cells; what is not moved to it before the next turn is lost. */
        void turnOver() {
            int[] other = before;
            before = cells;
            cells = other;
            top = FREE;
        }

        private int moved(int v) {
            if (v < FREE) {
                return v;
            }
            int kind = before[v];
            int moved = open(kind, before[v + LENGTH]);
            cells[moved + SIZE] = before[v + SIZE];
            cells[moved + DEPTH] = before[v + DEPTH];
            for (int k = v + HEAD; k < v + cellsFor(kind, before[v + LENGTH]); k++) {
                // Moving a part may put a longer row in the place of cells, so it comes before the write.
                int cell = kind >= Kind.ARRAY ? moved(before[k]) : before[k];
                cells[moved - v + k] = cell;
            }
            return moved;
        }

        private static int cellsFor(int kind, int length) {
            switch (kind) {
                case Kind.NUMBER: return NUMBER_CELLS;
                case Kind.OBJECT: return HEAD + 2 * length;
                default: return HEAD + length;
            }
        }

        private void setHead(int v, int kind, int length) {
            cells[v] = kind;
            cells[v + LENGTH] = length;
            cells[v + SIZE] = 1;
            cells[v + DEPTH] = 0;
        }

        private int open(int kind, int length) {
            if (length > (kind == Kind.OBJECT ? MOST_MEMBERS : MOST_ITEMS)) {
                throw new IllegalStateException("no room in a value");
            }
            int v = top;
            top += cellsFor(kind, length);
            if (top > cells.length) {
                cells = Arrays.copyOf(cells, 2 * top);
            }
            setHead(v, kind, length);
            return v;
        }

        /** What open began, with the SIZE and DEPTH that come of its items. */
        private int closed(int v) {
            int size = 1;
            int depth = 0;
            for (int k = v + HEAD; k < v + HEAD + cells[v + LENGTH]; k++) {
                size += cells[cells[k] + SIZE];
                depth = Math.max(depth, cells[cells[k] + DEPTH]);
            }
            if (size > MOST_SIZE || depth == MOST_DEPTH) {
                throw new IllegalStateException("no room for a value");
            }
            cells[v + SIZE] = size;
            cells[v + DEPTH] = depth + 1;
            return v;
        }

        int truth(boolean holds) {
            return holds ? TRUE : FALSE;
        }

        int wordFor(int kind) {
            return kind * HEAD;
        }

        int small(int k) {
            return SMALL_NUMBERS + k * NUMBER_CELLS;
        }

        /** The NUMBER whole * 10 to the power of -scale. */
        int numberOf(long whole, int scale) {
            long m = whole;
            int s = scale;
            while (s > 0 && m % 10 == 0) {
                m /= 10;
                s--;
            }
            if (s > MOST_SCALE || m > MOST_WHOLE || m < -MOST_WHOLE) {
                throw new IllegalStateException("no room in a number");
            }
            int v = open(Kind.NUMBER, 0);
            cells[v + HEAD] = (int) m;
            cells[v + HEAD + 1] = s;
            return v;
        }

        int longer(int text, int letter) {
            int had = lengthOf(text);
            int v = open(Kind.TEXT, had + 1);
            System.arraycopy(cells, text + HEAD, cells, v + HEAD, had);
            cells[v + HEAD + had] = letter;
            return v;
        }

        int arrayOf(int[] parts, int size) {
            int v = open(Kind.ARRAY, size);
            System.arraycopy(parts, 0, cells, v + HEAD, size);
            return closed(v);
        }

        int emptyArray() {
            return closed(open(Kind.ARRAY, 0));
        }

        int objectOf(int name, int item) {
            int v = open(Kind.OBJECT, 1);
            cells[v + HEAD] = item;
            cells[v + HEAD + 1] = name;
            return closed(v);
        }

        private int compared(int v, int w) {
            if (kindOf(v) != kindOf(w)) {
                return kindOf(v) < kindOf(w) ? -1 : 1;
            }
            switch (kindOf(v)) {
                case Kind.NUMBER:
                    return Long.compare(millionthsOf(v), millionthsOf(w));
                case Kind.TEXT:
                    return comparedTexts(v, w);
                case Kind.ARRAY:
                    return comparedParts(v, w, 0, 0);
                case Kind.OBJECT:
                    int byNames = comparedParts(v, w, lengthOf(v), lengthOf(w));
                    return byNames != 0 ? byNames : comparedParts(v, w, 0, 0);
                default:
                    return 0;
            }
        }

        private int comparedTexts(int v, int w) {
            int both = Math.min(lengthOf(v), lengthOf(w));
            for (int k = 0; k < both; k++) {
                if (letterAt(v, k) != letterAt(w, k)) {
                    return letterAt(v, k) < letterAt(w, k) ? -1 : 1;
                }
            }
            return Integer.compare(lengthOf(v), lengthOf(w));
        }

        /** By the items, or by the names, which stand in the cells behind the items. */
        private int comparedParts(int v, int w, int skippedOfV, int skippedOfW) {
            int both = Math.min(lengthOf(v), lengthOf(w));
            for (int k = 0; k < both; k++) {
                int by = compared(itemAt(v, skippedOfV + k), itemAt(w, skippedOfW + k));
                if (by != 0) {
                    return by;
                }
            }
            return Integer.compare(lengthOf(v), lengthOf(w));
        }

        private long millionthsOf(int number) {
            return (long) wholeOf(number) * POWERS[MOST_SCALE - scaleOf(number)];
        }

        private int floorOf(int number) {
            return Math.floorDiv(wholeOf(number), POWERS[scaleOf(number)]);
        }

        private int towardZero(int number) {
            return wholeOf(number) / POWERS[scaleOf(number)];
        }

        int fieldOf(int v, int name) {
            if (kindOf(v) == Kind.NULL) {
                return NULL;
            }
            if (kindOf(v) != Kind.OBJECT) {
                return WRONG_KIND;
            }
            return memberOf(v, name, NULL);
        }

        private int memberOf(int object, int name, int otherwise) {
            for (int k = 0; k < lengthOf(object); k++) {
                if (comparedTexts(nameAt(object, k), name) == 0) {
                    return itemAt(object, k);
                }
            }
            return otherwise;
        }

        int indexed(int v, int i) {
            if (kindOf(v) == Kind.NULL) {
                return NULL;
            }
            if (kindOf(v) == Kind.OBJECT && kindOf(i) == Kind.TEXT) {
                return memberOf(v, i, NULL);
            }
            if (kindOf(v) != Kind.ARRAY || kindOf(i) != Kind.NUMBER) {
                return WRONG_KIND;
            }
            int k = floorOf(i) < 0 ? floorOf(i) + lengthOf(v) : floorOf(i);
            return isBelow(k, lengthOf(v)) ? itemAt(v, k) : NULL;
        }

        int has(int v, int i) {
            if (kindOf(v) == Kind.OBJECT && kindOf(i) == Kind.TEXT) {
                return truth(memberOf(v, i, NO_MEMBER) != NO_MEMBER);
            }
            if (kindOf(v) == Kind.ARRAY && kindOf(i) == Kind.NUMBER) {
                return truth(isBelow(floorOf(i), lengthOf(v)));
            }
            return WRONG_KIND;
        }

        int plus(int x, int y) {
            if (kindOf(x) == Kind.NULL) {
                return y;
            }
            if (kindOf(y) == Kind.NULL) {
                return x;
            }
            if (kindOf(x) != kindOf(y)) {
                return WRONG_KIND;
            }
            switch (kindOf(x)) {
                case Kind.NUMBER: return numberOf(millionthsOf(x) + millionthsOf(y), MOST_SCALE);
                case Kind.TEXT: case Kind.ARRAY: return joined(x, y);
                case Kind.OBJECT: return merged(x, y);
                default: return WRONG_KIND;
            }
        }

        private int joined(int x, int y) {
            int v = open(kindOf(x), lengthOf(x) + lengthOf(y));
            System.arraycopy(cells, x + HEAD, cells, v + HEAD, lengthOf(x));
            System.arraycopy(cells, y + HEAD, cells, v + HEAD + lengthOf(x), lengthOf(y));
            return kindOf(x) == Kind.ARRAY ? closed(v) : v;
        }

        private int merged(int x, int y) {
            int i = 0;
            int j = 0;
            int size = 0;
            while (i < lengthOf(x) || j < lengthOf(y)) {
                boolean onlyX = j == lengthOf(y);
                boolean onlyY = i == lengthOf(x);
                int by = onlyX ? -1 : onlyY ? 1 : comparedTexts(nameAt(x, i), nameAt(y, j));
                names[size] = by < 0 ? nameAt(x, i) : nameAt(y, j);
                items[size] = by < 0 ? itemAt(x, i) : itemAt(y, j);
                size++;
                i += by <= 0 ? 1 : 0;
                j += by >= 0 ? 1 : 0;
            }
            int v = open(Kind.OBJECT, size);
            System.arraycopy(items, 0, cells, v + HEAD, size);
            System.arraycopy(names, 0, cells, v + HEAD + size, size);
            return closed(v);
        }

        int minus(int x, int y) {
            if (kindOf(x) == Kind.NUMBER && kindOf(y) == Kind.NUMBER) {
                return numberOf(millionthsOf(x) - millionthsOf(y), MOST_SCALE);
            }
            if (kindOf(x) != Kind.ARRAY || kindOf(y) != Kind.ARRAY) {
                return WRONG_KIND;
            }
            int size = 0;
            for (int k = 0; k < lengthOf(x); k++) {
                int j = 0;
                while (j < lengthOf(y) && compared(itemAt(x, k), itemAt(y, j)) != 0) {
                    j++;
                }
                if (j == lengthOf(y)) {
                    items[size] = itemAt(x, k);
                    size++;
                }
            }
            return arrayOf(items, size);
        }

        int times(int x, int y) {
            if (kindOf(x) != Kind.NUMBER || kindOf(y) != Kind.NUMBER) {
                return WRONG_KIND;
            }
            return numberOf((long) wholeOf(x) * wholeOf(y), scaleOf(x) + scaleOf(y));
        }

        int rest(int x, int y) {
            if (kindOf(x) != Kind.NUMBER || kindOf(y) != Kind.NUMBER) {
                return WRONG_KIND;
            }
            int divisor = towardZero(y);
            return divisor == 0 ? REST_BY_ZERO : numberOf(towardZero(x) % divisor, 0);
        }

        int sumOf(int v) {
            if (kindOf(v) != Kind.ARRAY) {
                return WRONG_KIND;
            }
            int sum = NULL;
            for (int k = 0; k < lengthOf(v) && sum != WRONG_KIND; k++) {
                sum = plus(sum, itemAt(v, k));
            }
            return sum;
        }

        int measured(int v) {
            switch (kindOf(v)) {
                case Kind.FALSE: case Kind.TRUE: return WRONG_KIND;
                case Kind.NUMBER: return numberOf(Math.abs(wholeOf(v)), scaleOf(v));
                default: return small(lengthOf(v));
            }
        }

        int floored(int v) {
            return kindOf(v) == Kind.NUMBER ? numberOf(floorOf(v), 0) : WRONG_KIND;
        }

        int keysOf(int v) {
            if (!hasParts(v)) {
                return WRONG_KIND;
            }
            for (int k = 0; k < lengthOf(v); k++) {
                items[k] = kindOf(v) == Kind.OBJECT ? nameAt(v, k) : small(k);
            }
            return arrayOf(items, lengthOf(v));
        }

        int sorted(int v) {
            if (kindOf(v) != Kind.ARRAY) {
                return WRONG_KIND;
            }
            for (int k = 0; k < lengthOf(v); k++) {
                int place = k;
                while (place > 0 && compared(items[place - 1], itemAt(v, k)) > 0) {
                    items[place] = items[place - 1];
                    place--;
                }
                items[place] = itemAt(v, k);
            }
            return arrayOf(items, lengthOf(v));
        }
    }

    /** Works out the expressions of one filter. What a method makes of an expression it puts behind the row out. */
    private static final class Runner {
        private static final int MOST_STEPS = 150;
        private static final int THOUSANDTHS = 3;
        private static final int OUTER_ROW = 0;
        private static final int INNER_ROW = 1;
        private static final int ROWS_A_LEVEL = 2;

        private final Values values;
        private final int[] strings;
        private final int[] variables = new int[VARIABLES];
        private final Row[] rows = new Row[(Filter.MOST_OUTER + 1) * ROWS_A_LEVEL];
        private Filter filter;
        private int steps;

        Runner(Values values, int[] strings, Filter filter) {
            this.values = values;
            this.strings = strings;
            this.filter = filter;
            for (int k = 0; k < rows.length; k++) {
                rows[k] = new Row();
            }
        }

        void start(Filter next) {
            filter = next;
            steps = 0;
            Arrays.fill(variables, Values.NULL);
        }

        int steps() {
            return steps;
        }

        private void work(int at, int v, int level, Row out) {
            if (steps == MOST_STEPS) {
                throw new IllegalStateException("no room for a step");
            }
            steps++;
            int a = filter.choiceAt(at);
            switch (filter.opAt(at)) {
                case Op.SELF: out.put(v); break;
                case Op.FIELD: give(values.fieldOf(v, strings[a]), out); break;
                case Op.EACH: each(v, out); break;
                case Op.COMMA: comma(at, v, level, out); break;
                case Op.NUMBER: out.put(values.numberOf(a, THOUSANDTHS)); break;
                case Op.STRING: out.put(strings[a]); break;
                case Op.WORD: out.put(values.wordFor(a)); break;
                case Op.ARRAY: array(at, v, level, out); break;
                case Op.NOTHING: out.put(values.emptyArray()); break;
                case Op.CALC: case Op.COMPARE: forEachPair(at, v, level, out); break;
                case Op.NOT: out.put(values.truth(!values.isGood(v))); break;
                case Op.TRY: attempt(at, v, level, out); break;
                case Op.OR: alternative(at, v, level, out); break;
                case Op.VARIABLE: out.put(variables[a]); break;
                case Op.REDUCE: reduce(at, v, level, out); break;
                case Op.LENGTH: give(values.measured(v), out); break;
                case Op.KEYS: give(values.keysOf(v), out); break;
                case Op.EMPTY: break;
                case Op.RAISE: out.end(v); break;
                case Op.SORT: give(values.sorted(v), out); break;
                case Op.SUM: give(values.sumOf(v), out); break;
                case Op.ALL: all(v, out); break;
                case Op.LIMIT: limit(at, v, level, out); break;
                case Op.FLOOR: give(values.floored(v), out); break;
                // All others are FOR EACH of their first part.
                default: forEach(at, v, level, out); break;
            }
        }

        private Row rowOf(int at, int v, int level, int which) {
            Row row = rows[level * ROWS_A_LEVEL + which];
            row.clear();
            work(at, v, level + 1, row);
            return row;
        }

        /** Puts a value behind the row; what is below 0 is no value but an ERROR of the token itself. */
        private void give(int result, Row out) {
            if (result >= 0) {
                out.put(result);
            } else {
                out.end(values.small(-result));
            }
        }

        private void forEach(int at, int v, int level, Row out) {
            Row row = rowOf(filter.firstPart(at), v, level, OUTER_ROW);
            for (int k = 0; k < row.size() && !out.isEnded(); k++) {
                follow(at, v, row.at(k), level, out);
            }
            out.endAs(row);
        }

        private void follow(int at, int v, int x, int level, Row out) {
            switch (filter.opAt(at)) {
                case Op.INDEX: give(values.indexed(v, x), out); break;
                case Op.PIPE: work(filter.secondPart(at), x, level + 1, out); break;
                case Op.OBJECT: out.put(values.objectOf(strings[filter.choiceAt(at)], x)); break;
                case Op.BOTH: case Op.EITHER: bothOrEither(at, v, x, level, out); break;
                case Op.IF: choose(at, v, x, level, out); break;
                case Op.BIND: bind(at, v, x, level, out); break;
                case Op.RANGE: range(x, out); break;
                case Op.HAS: give(values.has(v, x), out); break;
                case Op.SELECT: select(v, x, out); break;
                default: break;
            }
        }

        private void bothOrEither(int at, int v, int x, int level, Row out) {
            boolean enough = filter.opAt(at) == Op.EITHER;
            if (values.isGood(x) == enough) {
                out.put(values.truth(enough));
                return;
            }
            Row row = rowOf(filter.secondPart(at), v, level, INNER_ROW);
            for (int k = 0; k < row.size(); k++) {
                out.put(values.truth(values.isGood(row.at(k))));
            }
            out.endAs(row);
        }

        private void choose(int at, int v, int x, int level, Row out) {
            int part = values.isGood(x) ? filter.secondPart(at) : filter.thirdPart(at);
            work(part, v, level + 1, out);
        }

        private void bind(int at, int v, int x, int level, Row out) {
            int a = filter.choiceAt(at);
            int outside = variables[a];
            variables[a] = x;
            work(filter.secondPart(at), v, level + 1, out);
            variables[a] = outside;
        }

        private void range(int x, Row out) {
            if (values.kindOf(x) != Kind.NUMBER) {
                give(Values.WRONG_KIND, out);
                return;
            }
            for (int k = 0; k <= Row.MOST && values.compared(values.small(k), x) < 0; k++) {
                out.put(values.small(k));
            }
        }

        private void select(int v, int x, Row out) {
            if (values.isGood(x)) {
                out.put(v);
            }
        }

        private void forEachPair(int at, int v, int level, Row out) {
            Row ys = rowOf(filter.secondPart(at), v, level, OUTER_ROW);
            for (int j = 0; j < ys.size() && !out.isEnded(); j++) {
                Row xs = rowOf(filter.firstPart(at), v, level, INNER_ROW);
                for (int k = 0; k < xs.size() && !out.isEnded(); k++) {
                    give(paired(at, xs.at(k), ys.at(j)), out);
                }
                out.endAs(xs);
            }
            out.endAs(ys);
        }

        private int paired(int at, int x, int y) {
            int a = filter.choiceAt(at);
            if (filter.opAt(at) == Op.COMPARE) {
                return values.truth(holds(a, values.compared(x, y)));
            }
            switch (a) {
                case 0: return values.plus(x, y);
                case 1: return values.minus(x, y);
                case 2: return values.times(x, y);
                default: return values.rest(x, y);
            }
        }

        private static boolean holds(int a, int by) {
            switch (a) {
                case 0: return by == 0;
                case 1: return by != 0;
                case 2: return by < 0;
                case 3: return by <= 0;
                case 4: return by > 0;
                default: return by >= 0;
            }
        }

        private void each(int v, Row out) {
            if (!values.hasParts(v)) {
                give(Values.WRONG_KIND, out);
                return;
            }
            for (int k = 0; k < values.lengthOf(v); k++) {
                out.put(values.itemAt(v, k));
            }
        }

        private void all(int v, Row out) {
            out.put(v);
            if (values.hasParts(v)) {
                for (int k = 0; k < values.lengthOf(v); k++) {
                    all(values.itemAt(v, k), out);
                }
            }
        }

        private void comma(int at, int v, int level, Row out) {
            work(filter.firstPart(at), v, level + 1, out);
            if (!out.isEnded()) {
                work(filter.secondPart(at), v, level + 1, out);
            }
        }

        private void array(int at, int v, int level, Row out) {
            Row row = rowOf(filter.firstPart(at), v, level, OUTER_ROW);
            if (row.isEnded()) {
                out.endAs(row);
            } else {
                out.put(values.arrayOf(row.items(), row.size()));
            }
        }

        private void attempt(int at, int v, int level, Row out) {
            work(filter.firstPart(at), v, level + 1, out);
            if (out.isEnded()) {
                work(filter.secondPart(at), out.caught(), level + 1, out);
            }
        }

        private void alternative(int at, int v, int level, Row out) {
            Row row = rowOf(filter.firstPart(at), v, level, OUTER_ROW);
            boolean none = true;
            for (int k = 0; k < row.size(); k++) {
                if (values.isGood(row.at(k))) {
                    out.put(row.at(k));
                    none = false;
                }
            }
            if (none) {
                work(filter.secondPart(at), v, level + 1, out);
            }
        }

        private void limit(int at, int v, int level, Row out) {
            int most = filter.choiceAt(at);
            if (most == 0) {
                return;
            }
            Row row = rowOf(filter.firstPart(at), v, level, OUTER_ROW);
            for (int k = 0; k < row.size() && k < most; k++) {
                out.put(row.at(k));
            }
            if (row.size() < most) {
                out.endAs(row);
            }
        }

        private void reduce(int at, int v, int level, Row out) {
            Row starts = rowOf(filter.secondPart(at), v, level, INNER_ROW);
            if (starts.isEnded()) {
                out.endAs(starts);
                return;
            }
            int z = starts.size() == 0 ? Values.NULL : starts.at(0);
            int a = filter.choiceAt(at);
            int outside = variables[a];
            Row row = rowOf(filter.firstPart(at), v, level, OUTER_ROW);
            for (int k = 0; k < row.size() && !out.isEnded(); k++) {
                variables[a] = row.at(k);
                Row next = rowOf(filter.thirdPart(at), z, level, INNER_ROW);
                z = next.size() == 0 ? Values.NULL : next.at(next.size() - 1);
                out.endAs(next);
            }
            variables[a] = outside;
            out.endAs(row);
            if (!out.isEnded()) {
                out.put(z);
            }
        }
    }
}
