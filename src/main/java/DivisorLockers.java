import java.util.NoSuchElementException;

/**
 * Lockers whose doors are turned by divisors, as ../shared/DOC.md promises.
 * Sets of doors, or of passes, are longs: bit d stands for the door, or the pass, d.
 */
public final class DivisorLockers {
    private static final int DOORS = 48;
    private static final int LAST_COAT_DOOR = 16;
    private static final int LAST_HAT_DOOR = 32;
    private static final int LARGEST_ROOT = 6;

    private static final int COAT = 0;
    private static final int HAT = 1;

    private static final int DOOR_CLOSED = 1;
    private static final int THING_THERE = 2;
    private static final int WRONG_KIND = 3;

    private static final int HISTORY_STATES = 4;
    private static final int TEXT_CHARACTERS = 60;
    private static final int FIRST_CHARACTER = 32;
    private static final int LAST_CHARACTER = 126;

    private static final int NO_CHARACTER = -1;
    private static final int ORDER_PASS = 'p';
    private static final int ORDER_TURN = 'd';
    private static final int ORDER_LOCK = 'l';
    private static final int ORDER_ROW = 'r';
    private static final int ORDER_STORE = 't';

    private static final int NO_FAULT = 0;
    private static final int FAULT_OF_FORM = 1;
    private static final int FAULT_OF_CALL = 2;
    private static final int BAD_ARGUMENT = 1;
    private static final int BAD_STATE = 2;

    private static final int FLOAT_FRACTION_BITS = 23;
    private static final int FLOAT_BIAS = 127;
    private static final int DOUBLE_FRACTION_BITS = 52;
    private static final int DOUBLE_BIAS = 1023;
    private static final int MOST_HALVINGS = 100;

    private final Row now;
    private final Row snapshot;
    private boolean snapshotTaken;
    private final History history;
    private final Text text;
    private final Trial trial;

    public DivisorLockers() {
        now = new Row();
        snapshot = new Row();
        snapshotTaken = false;
        history = new History();
        text = new Text();
        trial = new Trial();
    }

    // ---- changes

    public int pass(int number) throws IllegalArgumentException {
        if (!isInRow(number)) {
            throw new IllegalArgumentException("the pass is out of range");
        }
        history.push(now);
        now.makePass(number);
        return Long.bitCount(now.open);
    }

    public int passRow(int number, int to) throws IllegalArgumentException {
        if (!isStretch(number, to)) {
            throw new IllegalArgumentException("the passes are out of range");
        }
        history.push(now);
        return now.makePasses(number, to);
    }

    public boolean turnDoor(int door) throws IllegalArgumentException, IllegalStateException {
        if (!isInRow(door)) {
            throw new IllegalArgumentException("there is no such door");
        }
        if (contains(now.locked, door)) {
            throw new IllegalStateException("the door is locked");
        }
        history.push(now);
        now.turn(door);
        return contains(now.open, door);
    }

    public boolean turnLock(int door) throws IllegalArgumentException {
        if (!isInRow(door)) {
            throw new IllegalArgumentException("there is no such door");
        }
        history.push(now);
        now.switchLock(door);
        return contains(now.locked, door);
    }

    public boolean turnSkip(int number) throws IllegalArgumentException {
        if (!isInRow(number)) {
            throw new IllegalArgumentException("the pass is out of range");
        }
        history.push(now);
        now.skipped ^= bit(number);
        return contains(now.skipped, number);
    }

    public int store(int door, int kind) throws IllegalArgumentException, IllegalStateException {
        if (!isInRow(door) || !isKind(kind)) {
            throw new IllegalArgumentException("there is no such door or no such kind");
        }
        if (now.reasonAgainst(door, kind) != 0) {
            throw new IllegalStateException("the thing is not stored");
        }
        history.push(now);
        now.put(door, kind);
        return Long.bitCount(now.doorsWith(kind));
    }

    public int takeOut(int door) throws IllegalArgumentException, IllegalStateException {
        if (!isInRow(door)) {
            throw new IllegalArgumentException("there is no such door");
        }
        if (!contains(now.open, door)) {
            throw new IllegalStateException("the door is closed");
        }
        if (!contains(now.filled, door)) {
            throw new IllegalStateException("there is no thing behind the door");
        }
        int kind = now.kindAt(door);
        history.push(now);
        now.clear(door);
        return kind;
    }

    // ---- doors, passes

    public boolean isOpen(int door) throws IllegalArgumentException {
        if (!isInRow(door)) {
            throw new IllegalArgumentException("there is no such door");
        }
        return contains(now.open, door);
    }

    public boolean isLocked(int door) throws IllegalArgumentException {
        if (!isInRow(door)) {
            throw new IllegalArgumentException("there is no such door");
        }
        return contains(now.locked, door);
    }

    public int turnsOf(int door) throws IllegalArgumentException {
        if (!isInRow(door)) {
            throw new IllegalArgumentException("there is no such door");
        }
        return countAt(now.turns, door);
    }

    public boolean isSkipped(int number) throws IllegalArgumentException {
        if (!isInRow(number)) {
            throw new IllegalArgumentException("the pass is out of range");
        }
        return contains(now.skipped, number);
    }

    public int timesOf(int number) throws IllegalArgumentException {
        if (!isInRow(number)) {
            throw new IllegalArgumentException("the pass is out of range");
        }
        return countAt(now.times, number);
    }

    public int divisorsOf(int number) throws IllegalArgumentException {
        if (!isInRow(number)) {
            throw new IllegalArgumentException("the number is out of range");
        }
        int divisors = 0;
        for (int divisor = 1; divisor <= DOORS; divisor++) {
            if (divides(divisor, number)) {
                divisors++;
            }
        }
        return divisors;
    }

    public int openDoors() {
        int doors = 0;
        for (int door = 1; door <= DOORS; door++) {
            if (contains(now.open, door)) {
                doors++;
            }
        }
        return doors;
    }

    public int openByTurns() {
        int doors = 0;
        for (int door = 1; door <= DOORS; door++) {
            doors += countAt(now.turns, door) & 1;
        }
        return doors;
    }

    public long openSet() {
        return now.open;
    }

    public int nextOpen(int door) throws IllegalArgumentException, NoSuchElementException {
        if (!isInRow(door)) {
            throw new IllegalArgumentException("there is no such door");
        }
        for (int next = door; next <= DOORS; next++) {
            if (contains(now.open, next)) {
                return next;
            }
        }
        throw new NoSuchElementException("no door from this one on is open");
    }

    // ---- passes that would close all

    public long closingPasses() {
        long open = now.open;
        long passes = 0L;
        for (int door = 1; door <= DOORS; door++) {
            if (contains(open, door)) {
                passes |= bit(door);
                open ^= multiplesOf(door);
            }
        }
        return passes;
    }

    public long closingByDivisors() {
        long passes = 0L;
        for (int number = 1; number <= DOORS; number++) {
            if (isClosingByDivisors(number)) {
                passes |= bit(number);
            }
        }
        return passes;
    }

    public int passesToClose() {
        return Long.bitCount(closingPasses());
    }

    public int wouldBeOpen(int number, int to) throws IllegalArgumentException {
        if (!isStretch(number, to)) {
            throw new IllegalArgumentException("the passes are out of range");
        }
        long open = now.open;
        for (int made = number; made <= to && made <= DOORS; made++) {
            if (!contains(now.skipped, made)) {
                open ^= now.turnedBy(made);
            }
        }
        return Long.bitCount(open);
    }

    public int bestPass() {
        int best = 1;
        int fewest = DOORS + 1;
        for (int number = 1; number <= DOORS; number++) {
            int open = Long.bitCount(now.open ^ now.turnedBy(number));
            if (open < fewest) {
                fewest = open;
                best = number;
            }
        }
        return best;
    }

    // ---- things

    public int whyNot(int door, int kind) throws IllegalArgumentException {
        if (!isInRow(door) || !isKind(kind)) {
            throw new IllegalArgumentException("there is no such door or no such kind");
        }
        return now.reasonAgainst(door, kind);
    }

    public int thingAt(int door) throws IllegalArgumentException, NoSuchElementException {
        if (!isInRow(door)) {
            throw new IllegalArgumentException("there is no such door");
        }
        if (!contains(now.filled, door)) {
            throw new NoSuchElementException("there is no thing behind the door");
        }
        return now.kindAt(door);
    }

    public int thingsOf(int kind) throws IllegalArgumentException {
        if (!isKind(kind)) {
            throw new IllegalArgumentException("there is no such kind");
        }
        return Long.bitCount(now.doorsWith(kind));
    }

    public int shutAway() {
        return Long.bitCount(now.filled & ~now.open);
    }

    // ---- shares, sums, the snapshot

    public float share() {
        return (float) Long.bitCount(now.open) / (float) DOORS;
    }

    public int shareBits() {
        // A float is the same number as a double, so one function tells both.
        return (int) bitsOf((double) share(), FLOAT_FRACTION_BITS, FLOAT_BIAS);
    }

    public float sumOfParts() {
        float sum = 0f;
        for (int door = 1; door <= DOORS; door++) {
            if (contains(now.open, door)) {
                sum += 1f / (float) door;
            }
        }
        return sum;
    }

    public long sumBits() {
        double sum = 0d;
        for (int door = 1; door <= DOORS; door++) {
            if (contains(now.open, door)) {
                sum += 1d / (double) door;
            }
        }
        return bitsOf(sum, DOUBLE_FRACTION_BITS, DOUBLE_BIAS);
    }

    public int turnsInAll() {
        int sum = 0;
        for (int door = 1; door <= DOORS; door++) {
            sum += countAt(now.turns, door);
        }
        return sum;
    }

    public int keep() {
        snapshot.copyFrom(now);
        snapshotTaken = true;
        return Long.bitCount(now.open);
    }

    public int goBack() throws IllegalStateException {
        if (!snapshotTaken) {
            throw new IllegalStateException("there is no snapshot");
        }
        history.push(now);
        now.copyFrom(snapshot);
        return Long.bitCount(now.open);
    }

    // ---- history, texts

    public int states() {
        return history.size;
    }

    public int undo() throws IllegalStateException {
        if (history.size == 0) {
            throw new IllegalStateException("the history is empty");
        }
        history.popInto(now);
        return history.size;
    }

    public int type(int character) throws IllegalArgumentException, IllegalStateException {
        if (character < FIRST_CHARACTER || character > LAST_CHARACTER) {
            throw new IllegalArgumentException("the character is out of range");
        }
        if (text.length >= TEXT_CHARACTERS) {
            throw new IllegalStateException("the text is full");
        }
        text.append((char) character);
        return text.length;
    }

    public int clearText() {
        int before = text.length;
        text.length = 0;
        return before;
    }

    public int faultPosition() throws NoSuchElementException {
        trial.run(text, now);
        if (trial.reason == NO_FAULT) {
            throw new NoSuchElementException("the text has no fault");
        }
        return trial.position;
    }

    public int faultReason() throws NoSuchElementException {
        trial.run(text, now);
        if (trial.reason == NO_FAULT) {
            throw new NoSuchElementException("the text has no fault");
        }
        return trial.reason;
    }

    public int faultCause() throws NoSuchElementException {
        trial.run(text, now);
        if (trial.reason == NO_FAULT) {
            throw new NoSuchElementException("the text has no fault");
        }
        return trial.cause;
    }

    public int play() throws IllegalStateException {
        trial.run(text, now);
        if (trial.reason != NO_FAULT) {
            throw new IllegalStateException("the text has a fault");
        }
        history.push(now);
        now.copyFrom(trial.row);
        return trial.orders;
    }

    // ---- numbers and sets

    private static boolean isInRow(int number) {
        return number >= 1 && number <= DOORS;
    }

    private static boolean isStretch(int number, int to) {
        return number >= 1 && number <= to && to <= DOORS;
    }

    private static boolean isKind(int kind) {
        return kind == COAT || kind == HAT;
    }

    private static long bit(int number) {
        return 1L << number;
    }

    private static boolean contains(long set, int number) {
        return (set >>> number & 1L) != 0L;
    }

    private static int countAt(int[] counts, int number) {
        return number >= 0 && number < counts.length ? counts[number] : 0;
    }

    private static void countUp(int[] counts, int number) {
        if (number >= 0 && number < counts.length) {
            counts[number]++;
        }
    }

    private static boolean divides(int divisor, int number) {
        return divisor > 0 && number % divisor == 0;
    }

    private static int timesInRow(int number) {
        return number > 0 ? DOORS / number : 0;
    }

    private static long multiplesOf(int number) {
        long doors = 0L;
        int last = timesInRow(number);
        for (int factor = 1; factor <= last; factor++) {
            doors |= bit(factor * number);
        }
        return doors;
    }

    private boolean isClosingByDivisors(int number) {
        boolean odd = false;
        for (int door = 1; door <= DOORS; door++) {
            if (contains(now.open, door) && divides(door, number) && isSquareFree(number / door)) {
                odd = !odd;
            }
        }
        return odd;
    }

    private static boolean isSquareFree(int number) {
        for (int root = 2; root <= LARGEST_ROOT; root++) {
            if (divides(root * root, number)) {
                return false;
            }
        }
        return true;
    }

    /**
     * The library's own functions for this are outside the language of this program.
     * Doubling and halving are exact, and so is the fraction, if the value has no more bits.
     */
    private static long bitsOf(double value, int fractionBits, int bias) {
        if (!(value > 0d)) {
            return 0L;
        }
        double part = value;
        int exponent = 0;
        for (int step = 0; step < MOST_HALVINGS && part < 1d; step++) {
            part *= 2d;
            exponent--;
        }
        for (int step = 0; step < MOST_HALVINGS && part >= 2d; step++) {
            part /= 2d;
            exponent++;
        }
        long fraction = (long) ((part - 1d) * (double) bit(fractionBits));
        return ((long) (exponent + bias) << fractionBits) | fraction;
    }

    /** Everything that a snapshot or a state of the history holds. */
    private static final class Row {
        private long open;
        private long locked;
        private long skipped;
        private long filled;
        private long hats;
        private final int[] turns;
        private final int[] times;

        Row() {
            turns = new int[DOORS + 1];
            times = new int[DOORS + 1];
        }

        void copyFrom(Row other) {
            if (other == null) {
                return;
            }
            open = other.open;
            locked = other.locked;
            skipped = other.skipped;
            filled = other.filled;
            hats = other.hats;
            copyCounts(other.turns, turns);
            copyCounts(other.times, times);
        }

        private static void copyCounts(int[] from, int[] to) {
            for (int number = 0; number < from.length && number < to.length; number++) {
                to[number] = from[number];
            }
        }

        void turn(int door) {
            if (contains(locked, door)) {
                return;
            }
            open ^= bit(door);
            countUp(turns, door);
        }

        long turnedBy(int number) {
            return multiplesOf(number) & ~locked;
        }

        void makePass(int number) {
            countUp(times, number);
            int last = timesInRow(number);
            for (int factor = 1; factor <= last; factor++) {
                turn(factor * number);
            }
        }

        int makePasses(int number, int to) {
            int made = 0;
            for (int next = number; next <= to && next <= DOORS; next++) {
                if (!contains(skipped, next)) {
                    makePass(next);
                    made++;
                }
            }
            return made;
        }

        void switchLock(int door) {
            locked ^= bit(door);
        }

        int reasonAgainst(int door, int kind) {
            if (!contains(open, door)) {
                return DOOR_CLOSED;
            }
            if (contains(filled, door)) {
                return THING_THERE;
            }
            return fits(door, kind) ? 0 : WRONG_KIND;
        }

        private static boolean fits(int door, int kind) {
            if (door <= LAST_COAT_DOOR) {
                return kind == COAT;
            }
            if (door <= LAST_HAT_DOOR) {
                return kind == HAT;
            }
            return true;
        }

        void put(int door, int kind) {
            filled |= bit(door);
            if (kind == HAT) {
                hats |= bit(door);
            }
        }

        void clear(int door) {
            filled &= ~bit(door);
            hats &= ~bit(door);
        }

        int kindAt(int door) {
            return contains(hats, door) ? HAT : COAT;
        }

        long doorsWith(int kind) {
            return kind == HAT ? hats : filled & ~hats;
        }
    }

    /** The states that undo goes back to; its rows are made once and written over. */
    private static final class History {
        private final Row[] rows;
        private int size;

        History() {
            rows = new Row[HISTORY_STATES];
            for (int place = 0; place < rows.length; place++) {
                rows[place] = new Row();
            }
        }

        void push(Row row) {
            if (size >= rows.length) {
                dropOldest();
            }
            Row next = size >= 0 && size < rows.length ? rows[size] : null;
            if (next != null) {
                next.copyFrom(row);
                size++;
            }
        }

        private void dropOldest() {
            if (rows.length == 0) {
                return;
            }
            Row oldest = rows[0];
            for (int place = 1; place < rows.length; place++) {
                rows[place - 1] = rows[place];
            }
            rows[rows.length - 1] = oldest;
            size = rows.length - 1;
        }

        void popInto(Row row) {
            if (size >= 1 && size <= rows.length && row != null) {
                size--;
                row.copyFrom(rows[size]);
            }
        }
    }

    private static final class Text {
        private final char[] characters;
        private int length;

        Text() {
            characters = new char[TEXT_CHARACTERS];
        }

        void append(char character) {
            if (length >= 0 && length < characters.length) {
                characters[length] = character;
                length++;
            }
        }

        int codeAt(int position) {
            if (position < 0 || position >= length || position >= characters.length) {
                return NO_CHARACTER;
            }
            return characters[position];
        }
    }

    /** The order that was read last. */
    private static final class Order {
        private int verb;
        private int first;
        private int second;
        private int number;
        /** The position behind the order, or where it breaks off. */
        private int end;

        /** Answers whether there is an order of the form at this position. */
        boolean readFrom(Text text, int position) {
            end = position;
            verb = text.codeAt(position);
            first = 0;
            second = 0;
            if (!isVerb(verb)) {
                return false;
            }
            end++;
            if (!readNumber(text)) {
                return false;
            }
            first = number;
            if (takesTwoNumbers(verb)) {
                if (!readSign(text, ',') || !readNumber(text)) {
                    return false;
                }
                second = number;
            }
            return readSign(text, ';');
        }

        private static boolean isVerb(int code) {
            return code == ORDER_PASS || code == ORDER_TURN || code == ORDER_LOCK || takesTwoNumbers(code);
        }

        private static boolean takesTwoNumbers(int code) {
            return code == ORDER_ROW || code == ORDER_STORE;
        }

        private static boolean isDigit(int code) {
            return code >= '0' && code <= '9';
        }

        private boolean readSign(Text text, int sign) {
            if (text.codeAt(end) != sign) {
                return false;
            }
            end++;
            return true;
        }

        private boolean readNumber(Text text) {
            if (!isDigit(text.codeAt(end))) {
                return false;
            }
            number = text.codeAt(end) - '0';
            end++;
            if (isDigit(text.codeAt(end))) {
                number = number * 10 + text.codeAt(end) - '0';
                end++;
            }
            return true;
        }

        /** Answers which exception the call for this order would throw on the row, or NO_FAULT. */
        int causeAgainst(Row row) {
            if (verb == ORDER_ROW) {
                return isStretch(first, second) ? NO_FAULT : BAD_ARGUMENT;
            }
            if (!isInRow(first)) {
                return BAD_ARGUMENT;
            }
            if (verb == ORDER_TURN) {
                return contains(row.locked, first) ? BAD_STATE : NO_FAULT;
            }
            if (verb == ORDER_STORE) {
                if (!isKind(second)) {
                    return BAD_ARGUMENT;
                }
                return row.reasonAgainst(first, second) == 0 ? NO_FAULT : BAD_STATE;
            }
            return NO_FAULT;
        }

        void carryOut(Row row) {
            if (verb == ORDER_PASS) {
                row.makePass(first);
            } else if (verb == ORDER_TURN) {
                row.turn(first);
            } else if (verb == ORDER_LOCK) {
                row.switchLock(first);
            } else if (verb == ORDER_ROW) {
                row.makePasses(first, second);
            } else if (verb == ORDER_STORE) {
                row.put(first, second);
            }
        }
    }

    /** Does the orders of a text on a row of its own, so that a fault leaves the lockers as they are. */
    private static final class Trial {
        private final Row row;
        private final Order order;
        private int orders;
        private int position;
        private int reason;
        private int cause;

        Trial() {
            row = new Row();
            order = new Order();
        }

        /** Ends at the first order that is not possible: there position, reason and cause are those of the fault. */
        void run(Text text, Row from) {
            row.copyFrom(from);
            orders = 0;
            position = 0;
            reason = NO_FAULT;
            cause = NO_FAULT;
            for (int step = 0; step < TEXT_CHARACTERS && position < text.length; step++) {
                if (!order.readFrom(text, position)) {
                    reason = FAULT_OF_FORM;
                    cause = order.end - position;
                    return;
                }
                cause = order.causeAgainst(row);
                if (cause != NO_FAULT) {
                    reason = FAULT_OF_CALL;
                    return;
                }
                order.carryOut(row);
                position = order.end;
                orders++;
            }
        }
    }
}
