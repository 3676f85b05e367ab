import java.util.NoSuchElementException;

/**
 * Keeps what functions of inputs and of each other were worth, with what they read and when that
 * was looked at last; after edits it works out anew only what it must; calls that come back to
 * themselves are answered.
 */
public final class MemoRuntime {
    public static final int NONE = -1;

    private static final int TABLES = 3;
    private static final int FUNCTIONS = 6;
    private static final int KEYS = 16;
    private static final int CELLS = 96;
    private static final int HIGHEST_CLASS = 2;
    private static final int TEXT_LIMIT = 24;
    private static final int UNDER_WAY_LIMIT = 20;
    private static final int BYTES_OF_LONG = 8;
    /** A read is written as one number: an input's number, or this and a cell's number. */
    private static final int CELL_READS = 100;

    private final Text draft = new Text();
    private final Text[] texts = new Text[FUNCTIONS];
    private final int[] circleValues = new int[FUNCTIONS];
    private final Inputs inputs = new Inputs();
    private final Edits edits = new Edits();

    private final Cell[] cells = new Cell[CELLS];
    /** Holds just the cells that are kept. */
    private final RecentOrder order = new RecentOrder();
    private int mayBeKept = CELLS;

    private final int[] underWay = new int[UNDER_WAY_LIMIT];
    /** One for each cell that may be under way, so that a demand makes no objects. */
    private final Working[] workings = new Working[UNDER_WAY_LIMIT];
    private int depth = 0;

    private int runs = 0;
    private int verifications = 0;
    private int skips = 0;
    private int circleAnswers = 0;

    public MemoRuntime() {
        for (int f = 0; f < FUNCTIONS; f++) {
            texts[f] = new Text();
            texts[f].append('0');
        }
        for (int number = 0; number < CELLS; number++) {
            cells[number] = new Cell();
        }
        for (int i = 0; i < UNDER_WAY_LIMIT; i++) {
            workings[i] = new Working();
        }
    }

    public int write(long characters) {
        if (draft.length + charactersIn(characters) > TEXT_LIMIT) {
            return NONE;
        }
        for (int i = 0; i < BYTES_OF_LONG; i++) {
            char c = characterAt(characters, i);
            if (c != 0) {
                draft.append(c);
            }
        }
        return draft.length;
    }

    public int wipe() {
        int had = draft.length;
        draft.length = 0;
        return had;
    }

    public int define(int f) throws IllegalArgumentException {
        requireFunction(f);
        int fault = draft.firstFault();
        if (fault == NONE) {
            texts[f].become(draft);
            draft.length = 0;
            order.clear();
        }
        return fault;
    }

    public boolean input(int table, int key, int v) throws IllegalArgumentException {
        requireTable(table);
        requireKey(key);
        int number = table * KEYS + key;
        if (inputs.values[number] == v) {
            return false;
        }
        edit(inputs.classes[table]);
        inputs.values[number] = v;
        inputs.changed[number] = edits.revision;
        return true;
    }

    public boolean circle(int f, int v) throws IllegalArgumentException {
        requireFunction(f);
        if (circleValues[f] == v) {
            return false;
        }
        edit(0);
        circleValues[f] = v;
        return true;
    }

    public void level(int table, int c) throws IllegalArgumentException {
        requireTable(table);
        requireWithin(c, HIGHEST_CLASS + 1);
        inputs.classes[table] = c;
        order.clear();
    }

    public int demand(int f, int key) throws IllegalArgumentException, IllegalStateException {
        requireCell(f, key);
        int number = f * KEYS + key;
        Outcome outcome = Outcome.CIRCLE;
        // Each circle makes one more cell good in this revision: CELLS of them are the most.
        for (int i = 0; i <= CELLS && outcome == Outcome.CIRCLE; i++) {
            depth = 0;
            outcome = ask(number);
        }
        if (outcome != Outcome.ANSWERED) {
            throw new IllegalStateException("too many cells under way");
        }
        order.putLast(number);
        letFirstGo();
        return cells[number].value;
    }

    public int count(int what) {
        switch (what) {
            case 0:
                return edits.revision;
            case 1:
                return runs;
            case 2:
                return verifications;
            case 3:
                return skips;
            case 4:
                return circleAnswers;
            case 5:
                return order.size;
            default:
                return NONE;
        }
    }

    public boolean kept(int f, int key) throws IllegalArgumentException {
        requireCell(f, key);
        return order.holds(f * KEYS + key);
    }

    public int cell(int f, int key, int what)
            throws IllegalArgumentException, NoSuchElementException {
        requireCell(f, key);
        requireWithin(what, 6);
        Cell cell = keptCell(f * KEYS + key);
        switch (what) {
            case 0:
                return cell.value;
            case 1:
                return cell.good;
            case 2:
                return cell.changed;
            case 3:
                return cell.leastClass;
            case 4:
                return cell.ofCircle ? 1 : 0;
            default:
                return cell.readCount;
        }
    }

    public int read(int f, int key, int i)
            throws IllegalArgumentException, NoSuchElementException {
        requireCell(f, key);
        Cell cell = keptCell(f * KEYS + key);
        return i >= 0 && i < cell.readCount ? cell.reads[i] : NONE;
    }

    public int recent(int i) {
        return i >= 0 && i < order.size ? order.at(i) : NONE;
    }

    public int bound(int n) throws IllegalArgumentException {
        if (n < 1 || n > CELLS) {
            throw new IllegalArgumentException("not 1 .. 96");
        }
        mayBeKept = n;
        return letFirstGo();
    }

    public boolean drop(int f, int key) throws IllegalArgumentException {
        requireCell(f, key);
        int number = f * KEYS + key;
        boolean was = order.holds(number);
        order.remove(number);
        return was;
    }

    private static void requireWithin(int index, int end) {
        if (index < 0 || index >= end) {
            throw new IllegalArgumentException("out of range");
        }
    }

    private static void requireTable(int table) {
        requireWithin(table, TABLES);
    }

    private static void requireFunction(int f) {
        requireWithin(f, FUNCTIONS);
    }

    private static void requireKey(int key) {
        requireWithin(key, KEYS);
    }

    private static void requireCell(int f, int key) {
        requireFunction(f);
        requireKey(key);
    }

    private Cell keptCell(int number) {
        if (!order.holds(number)) {
            throw new NoSuchElementException("not kept");
        }
        return cells[number];
    }

    private static char characterAt(long characters, int place) {
        return (char) (characters >>> (8 * place) & 255);
    }

    private static int charactersIn(long characters) {
        int found = 0;
        for (int i = 0; i < BYTES_OF_LONG; i++) {
            if (characterAt(characters, i) != 0) {
                found++;
            }
        }
        return found;
    }

    private void edit(int ofClass) {
        edits.add(ofClass);
        for (int number = 0; number < CELLS; number++) {
            if (cells[number].ofCircle) {
                order.remove(number);
            }
        }
    }

    private int letFirstGo() {
        int tooMany = Math.max(0, order.size - mayBeKept);
        for (int i = 0; i < tooMany; i++) {
            order.remove(order.at(0));
        }
        return tooMany;
    }

    /**
     * Calls itself, by way of reads, no deeper than UNDER_WAY_LIMIT. After a circle, or when all
     * is given up, depth is left as it is: the next asking from outside begins at 0.
     */
    private Outcome ask(int number) {
        int place = placeUnderWay(number);
        if (place != NONE) {
            answerCircle(place);
            return Outcome.CIRCLE;
        }
        if (isGood(number) || skip(number)) {
            return Outcome.ANSWERED;
        }
        if (depth >= UNDER_WAY_LIMIT) {
            return Outcome.GIVEN_UP;
        }
        underWay[depth] = number;
        depth++;
        Outcome outcome = verify(number);
        if (outcome == Outcome.STALE) {
            outcome = run(number, workings[depth - 1]);
        }
        if (outcome == Outcome.ANSWERED) {
            depth--;
            order.putLast(number);
        }
        return outcome;
    }

    private int placeUnderWay(int number) {
        for (int i = 0; i < depth; i++) {
            if (underWay[i] == number) {
                return i;
            }
        }
        return NONE;
    }

    private void answerCircle(int first) {
        for (int i = first; i < depth; i++) {
            int number = underWay[i];
            Cell cell = cells[number];
            cell.value = circleValues[number / KEYS];
            cell.readCount = 0;
            cell.good = edits.revision;
            cell.changed = edits.revision;
            cell.leastClass = 0;
            cell.ofCircle = true;
            order.putLast(number);
            circleAnswers++;
        }
    }

    private boolean isGood(int number) {
        return order.holds(number) && cells[number].good == edits.revision;
    }

    /** Whether the cell's class spared it a look at its reads. */
    private boolean skip(int number) {
        Cell cell = cells[number];
        if (!order.holds(number) || edits.touched(cell.leastClass, cell.good)) {
            return false;
        }
        cell.good = edits.revision;
        skips++;
        order.putLast(number);
        return true;
    }

    private Outcome verify(int number) {
        if (!order.holds(number)) {
            return Outcome.STALE;
        }
        Cell cell = cells[number];
        for (int i = 0; i < cell.readCount; i++) {
            int read = cell.reads[i];
            Outcome outcome = askForRead(read);
            if (outcome != Outcome.ANSWERED) {
                return outcome;
            }
            if (changedOf(read) > cell.good) {
                return Outcome.STALE;
            }
        }
        cell.good = edits.revision;
        cell.leastClass = leastClassOfReads(cell);
        verifications++;
        return Outcome.ANSWERED;
    }

    private Outcome run(int number, Working working) {
        working.begin(texts[number / KEYS], number % KEYS);
        working.goOn();
        // No character of a text wants more than one read.
        for (int i = 0; i < TEXT_LIMIT && working.wanted != NONE; i++) {
            Outcome outcome = askForRead(working.wanted);
            if (outcome != Outcome.ANSWERED) {
                return outcome;
            }
            working.take(valueOf(working.wanted));
            working.goOn();
        }
        keep(number, working);
        runs++;
        return Outcome.ANSWERED;
    }

    private void keep(int number, Working working) {
        Cell cell = cells[number];
        if (!order.holds(number) || cell.value != working.value) {
            cell.changed = edits.revision;
        }
        cell.value = working.value;
        cell.readCount = working.readCount;
        System.arraycopy(working.reads, 0, cell.reads, 0, working.readCount);
        cell.good = edits.revision;
        cell.leastClass = leastClassOfReads(cell);
        cell.ofCircle = false;
    }

    private Outcome askForRead(int read) {
        return isCellRead(read) ? ask(read - CELL_READS) : Outcome.ANSWERED;
    }

    private static boolean isCellRead(int read) {
        return read >= CELL_READS;
    }

    private int valueOf(int read) {
        return isCellRead(read) ? cells[read - CELL_READS].value : inputs.values[read];
    }

    private int changedOf(int read) {
        return isCellRead(read) ? cells[read - CELL_READS].changed : inputs.changed[read];
    }

    private int classOf(int read) {
        return isCellRead(read) ? cells[read - CELL_READS].leastClass : inputs.classes[read / KEYS];
    }

    private int leastClassOfReads(Cell cell) {
        int least = HIGHEST_CLASS;
        for (int i = 0; i < cell.readCount; i++) {
            least = Math.min(least, classOf(cell.reads[i]));
        }
        return least;
    }

    /** How asking for a cell ended, or looking through its reads. */
    private enum Outcome {
        ANSWERED,
        /** The cell must be run. */
        STALE,
        /** Circle values were given: the demand begins anew. */
        CIRCLE,
        GIVEN_UP
    }

    /** What may be kept of a cell; whether it is kept, the recent order knows. */
    private static final class Cell {
        int value = 0;
        final int[] reads = new int[TEXT_LIMIT];
        int readCount = 0;
        int good = 0;
        int changed = 0;
        int leastClass = HIGHEST_CLASS;
        boolean ofCircle = false;
    }

    private static final class Inputs {
        final int[] values = new int[TABLES * KEYS];
        final int[] changed = new int[TABLES * KEYS];
        final int[] classes = new int[TABLES];
    }

    private static final class Edits {
        int revision = 0;
        private final int[] last = new int[HIGHEST_CLASS + 1];

        void add(int ofClass) {
            revision++;
            last[ofClass] = revision;
        }

        /** Whether there was an edit of a class or a greater one after a revision. */
        boolean touched(int leastClass, int after) {
            for (int c = leastClass; c <= HIGHEST_CLASS; c++) {
                if (last[c] > after) {
                    return true;
                }
            }
            return false;
        }
    }

    /** The cells that are kept, in a ring that is closed by a joint, which is no cell. */
    private static final class RecentOrder {
        private static final int JOINT = CELLS;

        int size = 0;
        private final boolean[] held = new boolean[CELLS];
        private final int[] before = new int[CELLS + 1];
        private final int[] after = new int[CELLS + 1];

        RecentOrder() {
            before[JOINT] = JOINT;
            after[JOINT] = JOINT;
        }

        boolean holds(int number) {
            return held[number];
        }

        void putLast(int number) {
            remove(number);
            int last = before[JOINT];
            join(last, number);
            join(number, JOINT);
            held[number] = true;
            size++;
        }

        void remove(int number) {
            if (held[number]) {
                join(before[number], after[number]);
                held[number] = false;
                size--;
            }
        }

        void clear() {
            for (int number = 0; number < CELLS; number++) {
                remove(number);
            }
        }

        /** The place must be below the size. */
        int at(int place) {
            int number = after[JOINT];
            for (int i = 0; i < place; i++) {
                number = after[number];
            }
            return number;
        }

        private void join(int left, int right) {
            after[left] = right;
            before[right] = left;
        }
    }

    private static final class Text {
        final char[] characters = new char[TEXT_LIMIT];
        int length = 0;

        /** How many expressions follow a character, NONE if it stands in no text. */
        static int operandsOf(char c) {
            if (c >= '0' && c <= '9' || c == 'k') {
                return 0;
            }
            if (c >= 'g' && c <= 'i' || c >= 'A' && c <= 'F') {
                return 1;
            }
            if (c == '+' || c == '-' || c == '*') {
                return 2;
            }
            return c == '?' ? 3 : NONE;
        }

        void append(char c) {
            if (length < TEXT_LIMIT) {
                characters[length] = c;
                length++;
            }
        }

        void become(Text other) {
            length = 0;
            for (int i = 0; i < other.length; i++) {
                append(other.characters[i]);
            }
        }

        /** NONE if this is one expression and nothing else. */
        int firstFault() {
            int due = 1;
            for (int i = 0; i < length; i++) {
                int operands = operandsOf(characters[i]);
                if (due == 0 || operands == NONE) {
                    return i;
                }
                due += operands - 1;
            }
            return due == 0 ? NONE : length;
        }

        /** The place behind the expression that begins at a place. */
        int behind(int start) {
            int due = 1;
            int place = start;
            while (due > 0 && place < length) {
                due += operandsOf(characters[place]) - 1;
                place++;
            }
            return place;
        }
    }

    /**
     * The working out of a text, which halts at each read: so calls nest with the cells that are
     * under way, but not with the expressions inside a text.
     */
    private static final class Working {
        /** Waits behind the second part of a ? to pass over the third; it stands in no text. */
        private static final char PASS_OVER = ':';

        /** The read that it halts at; NONE at the end. */
        int wanted = NONE;
        int value = 0;
        final int[] reads = new int[TEXT_LIMIT];
        int readCount = 0;

        private Text text = new Text();
        private int key = 0;
        private int at = 0;
        /** The operators that lack an operand, the innermost last. */
        private final char[] waiting = new char[TEXT_LIMIT];
        private final boolean[] hasLeft = new boolean[TEXT_LIMIT];
        private final int[] left = new int[TEXT_LIMIT];
        private int waits = 0;

        void begin(Text toWorkOut, int forKey) {
            wanted = NONE;
            readCount = 0;
            text = toWorkOut;
            key = forKey;
            at = 0;
            waits = 0;
        }

        void goOn() {
            // Each round is for another character of the text.
            for (int i = 0; i < TEXT_LIMIT && wanted == NONE && at < text.length; i++) {
                char c = text.characters[at];
                at++;
                if (Text.operandsOf(c) > 0) {
                    letWait(c);
                } else {
                    handOver(c == 'k' ? key : c - '0');
                }
            }
        }

        /** Takes what the wanted read is worth. */
        void take(int worth) {
            noteRead(wanted);
            wanted = NONE;
            handOver(worth);
        }

        private void noteRead(int read) {
            for (int i = 0; i < readCount; i++) {
                if (reads[i] == read) {
                    return;
                }
            }
            reads[readCount] = read;
            readCount++;
        }

        private void letWait(char operator) {
            waiting[waits] = operator;
            hasLeft[waits] = false;
            waits++;
        }

        /** The value goes to the operators that wait, outwards, until one lacks more than that. */
        private void handOver(int worth) {
            value = worth;
            for (int top = waits - 1; top >= 0; top--) {
                char operator = waiting[top];
                waits = top;
                if (operator == PASS_OVER) {
                    at = text.behind(at);
                } else if (hasLeft[top]) {
                    value = together(operator, left[top], value);
                } else {
                    takeFirst(operator);
                    return;
                }
            }
        }

        /** An operator that was taken off gets its first operand. */
        private void takeFirst(char operator) {
            if (Text.operandsOf(operator) == 1) {
                wanted = readBy(operator, value & (KEYS - 1));
            } else if (operator != '?') {
                left[waits] = value;
                hasLeft[waits] = true;
                waits++;
            } else if (value != 0) {
                letWait(PASS_OVER);
            } else {
                at = text.behind(at);
            }
        }

        private static int readBy(char operator, int key) {
            return operator >= 'g'
                    ? (operator - 'g') * KEYS + key
                    : CELL_READS + (operator - 'A') * KEYS + key;
        }

        private static int together(char operator, int a, int b) {
            if (operator == '+') {
                return a + b;
            }
            return operator == '-' ? a - b : a * b;
        }
    }
}
