/** A poem whose lines fall, rest on one another, slide and break; ../shared/DOC.md has its promises. */
public final class FallingLines {
    /** There is nothing to return. */
    public static final int NONE = -1;

    private static final int COLUMNS = 24;
    private static final int ROWS = 16;
    private static final int LOWEST_ROW = ROWS - 1;
    private static final int MAX_LINES = 10;
    private static final int MAX_WIDTH = 12;
    private static final int MAX_WEIGHT = 9;
    private static final int MAX_VERSE = 3;
    private static final int MAX_LINE_BEAT = 99;
    private static final int MAX_BEATS_OF_RUN = 50;
    private static final int MAX_BEAT = 999;
    private static final int MAX_STRENGTH = 9;
    private static final int FIRST_STRENGTH = 2;
    private static final int MAX_BEATS_TO_REST = 200;
    private static final int MAX_SAVED = 6;
    private static final int MAX_TEXT = 60;
    private static final int LEAST_CODE = 33;
    private static final int GREATEST_CODE = 126;
    private static final int MAX_WHAT = 11;
    private static final int MAX_WHAT_OF_DROP = 2;
    private static final long FIRST_HASH = 2909L;

    private final Poem poem = new Poem();
    // Reused for all that would be, so that no call makes an object.
    private final Poem trial = new Poem();
    private final History history = new History();
    private final PoemText text = new PoemText();

    /** Creates an empty screen at the beat 0, with an empty buffer. */
    public FallingLines() {
    }

    // ---- lines

    /** Adds a line, which waits; returns its number. */
    public int line(int width, int weight, int column, int verse, int beat)
            throws IllegalArgumentException, IllegalStateException {
        if (!isShape(width, weight, column) || !isVerse(verse) || !isLineBeat(beat)) {
            throw new IllegalArgumentException();
        }
        if (poem.size >= MAX_LINES) {
            throw new IllegalStateException();
        }
        history.keep(poem);
        return poem.join(width, weight, column, verse, beat);
    }

    /** Lets beats go by; returns how many lines break in them. */
    public int run(int beats) throws IllegalArgumentException, IllegalStateException {
        if (beats < 1 || beats > MAX_BEATS_OF_RUN) {
            throw new IllegalArgumentException();
        }
        if (poem.beat + beats > MAX_BEAT) {
            throw new IllegalStateException();
        }
        history.keep(poem);
        int brokenBefore = poem.broken;
        for (int i = 0; i < beats; i++) {
            poem.passBeat();
        }
        return poem.broken - brokenBefore;
    }

    /** Takes a verse away; returns how many lines are gone by that. */
    public int reset(int verse) throws IllegalArgumentException {
        if (!isVerse(verse)) {
            throw new IllegalArgumentException();
        }
        history.keep(poem);
        return poem.takeVerseAway(verse);
    }

    /** Pushes a line on the screen to a side by a column; returns its first column then. */
    public int push(int number, boolean right) throws IndexOutOfBoundsException, IllegalStateException {
        if (!isNumber(number)) {
            throw new IndexOutOfBoundsException();
        }
        if (!poem.isFreeBeside(number, right)) {
            throw new IllegalStateException();
        }
        history.keep(poem);
        poem.slide(number, right);
        return poem.column[number];
    }

    /** Changes the setting 0; returns the previous one. */
    public int set(int strength) throws IllegalArgumentException {
        if (strength < 1 || strength > MAX_STRENGTH) {
            throw new IllegalArgumentException();
        }
        history.keep(poem);
        int previous = poem.strength;
        poem.strength = strength;
        return previous;
    }

    // ---- texts

    /** Appends a character to the buffer; returns the new length. */
    public int append(int code) throws IllegalArgumentException, IllegalStateException {
        if (code < LEAST_CODE || code > GREATEST_CODE) {
            throw new IllegalArgumentException();
        }
        if (text.length >= MAX_TEXT) {
            throw new IllegalStateException();
        }
        text.add(code);
        return text.length;
    }

    /** Clears the buffer; returns the length that it had. */
    public int clearBuffer() {
        int had = text.length;
        text.length = 0;
        return had;
    }

    /** Finds the first syntax error of the buffer; its length if there is none. */
    public int firstError() {
        return text.scan();
    }

    /** Adds the lines in the buffer, up to the first one that line() would refuse; returns how many. */
    public int read() throws IllegalArgumentException {
        if (!text.tellsPoem()) {
            throw new IllegalArgumentException();
        }
        history.keep(poem);
        int added = 0;
        int next = 0;
        for (int i = 0; i < MAX_TEXT && next < text.length; i++) {
            next = text.scanLine(next);
            if (!addToldLine()) {
                break;
            }
            added++;
        }
        text.length = 0;
        return added;
    }

    /** Restores the latest saved state, and drops it; returns how many are left. */
    public int undo() throws IllegalStateException {
        if (history.kept < 1) {
            throw new IllegalStateException();
        }
        history.giveBackTo(poem);
        return history.kept;
    }

    // ---- looks; nothing is changed

    /** Returns a property of a line. */
    public int lineOf(int number, int what) throws IndexOutOfBoundsException, IllegalArgumentException {
        if (!isNumber(number)) {
            throw new IndexOutOfBoundsException();
        }
        if (what < 0 || what > MAX_WHAT) {
            throw new IllegalArgumentException();
        }
        return poem.property(number, what);
    }

    /** Returns the line on a square; NONE if it is free. */
    public int at(int row, int column) throws IllegalArgumentException {
        if (row < 0 || row >= ROWS || column < 0 || column >= COLUMNS) {
            throw new IllegalArgumentException();
        }
        return poem.lineOn(row, column);
    }

    /** Returns the line that the eye reads at a place; NONE if there are not so many. */
    public int reads(int place) throws IllegalArgumentException {
        if (place < 0) {
            throw new IllegalArgumentException();
        }
        return poem.readAt(place);
    }

    /** Returns a number of lines, squares, beats or saved states. */
    public int count(int what) throws IllegalArgumentException {
        if (what < 0 || what > MAX_WHAT) {
            throw new IllegalArgumentException();
        }
        return what == MAX_WHAT ? history.kept : poem.tally(what);
    }

    // ---- what would be; nothing is changed, and the limit of beats does not matter

    /** Tells in how many beats all would be at rest; NONE if not within 200. */
    public int untilRest() {
        trial.copyFrom(poem);
        return trial.settle();
    }

    /** Tells what another line, of the verse 0, let go now, would do. */
    public int ifDropped(int width, int weight, int column, int what) throws IllegalArgumentException {
        if (!isShape(width, weight, column) || what < 0 || what > MAX_WHAT_OF_DROP) {
            throw new IllegalArgumentException();
        }
        int number = joinTrial(width, weight, column);
        int beats = trial.settle();
        if (what == 2) {
            return trial.broken - poem.broken;
        }
        if (beats == NONE || !trial.isOnScreen(number)) {
            return NONE;
        }
        return what == 0 ? trial.row[number] : trial.column[number];
    }

    /** Finds the column from which another line comes lowest, then breaks the fewest lines. */
    public int bestColumn(int width, int weight) throws IllegalArgumentException {
        if (!isWidth(width) || !isWeight(weight)) {
            throw new IllegalArgumentException();
        }
        int best = NONE;
        int bestRow = NONE;
        int fewest = 0;
        for (int column = 0; column + width <= COLUMNS; column++) {
            int number = joinTrial(width, weight, column);
            if (trial.settle() == NONE || !trial.isOnScreen(number)) {
                continue;
            }
            int row = trial.row[number];
            int breaks = trial.broken - poem.broken;
            if (row > bestRow || (row == bestRow && breaks < fewest)) {
                best = column;
                bestRow = row;
                fewest = breaks;
            }
        }
        return best;
    }

    /** Tells how many lines of other verses a verse holds up; NONE without rest within 200 beats. */
    public int ifReset(int verse) throws IllegalArgumentException {
        if (!isVerse(verse)) {
            throw new IllegalArgumentException();
        }
        trial.copyFrom(poem);
        trial.takeVerseAway(verse);
        if (trial.settle() == NONE) {
            return NONE;
        }
        int heldUp = 0;
        for (int i = 0; i < poem.size; i++) {
            boolean counts = poem.isOnScreen(i) && poem.verse[i] != verse;
            if (counts && (!trial.isOnScreen(i) || trial.row[i] > poem.row[i])) {
                heldUp++;
            }
        }
        return heldUp;
    }

    /** Returns how full the screen is. */
    public double fullness() {
        return (double) poem.squares() / 384.0;
    }

    /** Computes a hash of the whole state. */
    public long digest() {
        long hash = hashOfLooks(FIRST_HASH);
        hash = 31 * hash + untilRest();
        for (int what = 0; what <= MAX_WHAT_OF_DROP; what++) {
            hash = 31 * hash + ifDropped(5, 3, 4, what);
        }
        hash = 31 * hash + bestColumn(6, 2);
        for (int verse = 0; verse <= MAX_VERSE; verse++) {
            hash = 31 * hash + ifReset(verse);
        }
        hash = 31 * hash + bitsOf(fullness());
        hash = 31 * hash + text.length;
        for (int i = 0; i < text.length; i++) {
            hash = 31 * hash + text.codes[i];
        }
        return hash;
    }

    private long hashOfLooks(long start) {
        long hash = start;
        for (int what = 0; what < MAX_WHAT; what++) {
            hash = 31 * hash + poem.tally(what);
        }
        hash = 31 * hash + history.kept;
        hash = 31 * hash + poem.strength;
        for (int number = 0; number < poem.size; number++) {
            for (int what = 0; what <= MAX_WHAT; what++) {
                hash = 31 * hash + poem.property(number, what);
            }
        }
        for (int row = 0; row < ROWS; row++) {
            for (int column = 0; column < COLUMNS; column++) {
                hash = 31 * hash + poem.lineOn(row, column);
            }
        }
        for (int place = 0; place < MAX_LINES; place++) {
            hash = 31 * hash + poem.readAt(place);
        }
        return hash;
    }

    /** The bits of a double from 0 to 1, as Double.doubleToLongBits, which the language leaves out. */
    private static long bitsOf(double share) {
        if (!(share > 0.0)) {
            return 0L;
        }
        double mantissa = share;
        long exponent = 1023L;
        for (int i = 0; i < 64 && mantissa < 1.0; i++) {
            mantissa = mantissa * 2.0;
            exponent--;
        }
        return (exponent << 52) + (long) ((mantissa - 1.0) * 4503599627370496.0);
    }

    private int joinTrial(int width, int weight, int column) {
        trial.copyFrom(poem);
        return trial.join(width, weight, column, 0, poem.beat);
    }

    private boolean addToldLine() {
        int width = text.told[PoemText.WIDTH];
        int weight = text.told[PoemText.WEIGHT];
        int column = text.told[PoemText.COLUMN];
        int beat = poem.beat + text.told[PoemText.BEATS];
        if (!isShape(width, weight, column) || !isLineBeat(beat) || poem.size >= MAX_LINES) {
            return false;
        }
        poem.join(width, weight, column, 0, beat);
        return true;
    }

    private boolean isNumber(int number) {
        return number >= 0 && number < poem.size;
    }

    private static boolean isShape(int width, int weight, int column) {
        return isWidth(width) && isWeight(weight)
                && column >= 0 && column < COLUMNS && column + width <= COLUMNS;
    }

    private static boolean isWidth(int width) {
        return width >= 1 && width <= MAX_WIDTH;
    }

    private static boolean isWeight(int weight) {
        return weight >= 1 && weight <= MAX_WEIGHT;
    }

    private static boolean isVerse(int verse) {
        return verse >= 0 && verse <= MAX_VERSE;
    }

    private static boolean isLineBeat(int beat) {
        return beat >= 0 && beat <= MAX_LINE_BEAT;
    }

    /** All that undo restores: the lines and where they are, the beat, the setting, what is counted. */
    private static final class Poem {
        // One more than there may be, for the line that is only tried.
        private static final int CAPACITY = MAX_LINES + 1;
        // In place of a row, for lines that are not on the screen.
        private static final int WAITING = -1;
        private static final int GONE = -2;

        private static final int STAY = 0;
        private static final int FALL = 1;
        private static final int LEFT = 2;
        private static final int RIGHT = 3;

        int beat = 0;
        int strength = FIRST_STRENGTH;
        int broken = 0;
        int size = 0;
        final int[] width = new int[CAPACITY];
        final int[] weight = new int[CAPACITY];
        final int[] verse = new int[CAPACITY];
        final int[] column = new int[CAPACITY];
        final int[] start = new int[CAPACITY];
        final int[] row = new int[CAPACITY];
        // The columns of a line, and those of a row that are not free, as masks: bit c for the column c.
        private final int[] span = new int[CAPACITY];
        private final int[] filled = new int[ROWS];
        // Reused by each step of a beat that looks at lines in an order of its own.
        private final int[] keys = new int[CAPACITY];

        void copyFrom(Poem other) {
            beat = other.beat;
            strength = other.strength;
            broken = other.broken;
            size = other.size;
            System.arraycopy(other.width, 0, width, 0, CAPACITY);
            System.arraycopy(other.weight, 0, weight, 0, CAPACITY);
            System.arraycopy(other.verse, 0, verse, 0, CAPACITY);
            System.arraycopy(other.column, 0, column, 0, CAPACITY);
            System.arraycopy(other.start, 0, start, 0, CAPACITY);
            System.arraycopy(other.row, 0, row, 0, CAPACITY);
            System.arraycopy(other.span, 0, span, 0, CAPACITY);
            System.arraycopy(other.filled, 0, filled, 0, ROWS);
        }

        /** Adds a line that waits; the caller has looked at its numbers. */
        int join(int itsWidth, int itsWeight, int itsColumn, int itsVerse, int itsStart) {
            if (size >= CAPACITY) {
                return NONE;
            }
            int number = size;
            size++;
            width[number] = itsWidth;
            weight[number] = itsWeight;
            verse[number] = itsVerse;
            column[number] = itsColumn;
            start[number] = itsStart;
            row[number] = WAITING;
            span[number] = ((1 << itsWidth) - 1) << itsColumn;
            return number;
        }

        int takeVerseAway(int which) {
            int taken = 0;
            for (int i = 0; i < size; i++) {
                if (verse[i] == which && row[i] != GONE) {
                    takeAway(i);
                    taken++;
                }
            }
            return taken;
        }

        /** False also for what is no line's number, as join() answers when there is no room. */
        boolean isOnScreen(int number) {
            return number >= 0 && number < size && row[number] >= 0 && row[number] < ROWS;
        }

        void passBeat() {
            letGo();
            moveLines();
            breakLines();
            beat++;
        }

        /** Lets beats go by until all is at rest; returns how many, NONE if 200 are not enough. */
        int settle() {
            for (int beats = 0; beats < MAX_BEATS_TO_REST; beats++) {
                if (isAllAtRest()) {
                    return beats;
                }
                passBeat();
            }
            return isAllAtRest() ? MAX_BEATS_TO_REST : NONE;
        }

        private void letGo() {
            int due = 0;
            for (int i = 0; i < size; i++) {
                if (isDue(i)) {
                    keys[due] = keyOf(0, i);
                    due++;
                }
            }
            sortKeys(due);
            for (int k = 0; k < due; k++) {
                int number = numberOf(keys[k]);
                if ((filled[0] & span[number]) == 0) {
                    row[number] = 0;
                    filled[0] |= span[number];
                }
            }
        }

        private void moveLines() {
            int moving = 0;
            for (int i = 0; i < size; i++) {
                if (isOnScreen(i)) {
                    keys[moving] = keyOf(row[i], i);
                    moving++;
                }
            }
            sortKeys(moving);
            for (int k = 0; k < moving; k++) {
                int number = numberOf(keys[k]);
                int steps = 1 + weight[number] / 4;
                for (int s = 0; s < steps; s++) {
                    int step = stepOf(number);
                    if (step == STAY) {
                        break;
                    }
                    takeStep(number, step);
                }
            }
        }

        private void breakLines() {
            // All loads are looked at before a line goes, as lines break at once.
            int breaking = 0;
            for (int i = 0; i < size; i++) {
                if (loadOf(i) > strengthOf(i)) {
                    breaking |= 1 << i;
                }
            }
            for (int i = 0; i < size; i++) {
                if ((breaking >> i & 1) != 0) {
                    takeAway(i);
                    broken++;
                }
            }
        }

        private boolean isDue(int number) {
            return row[number] == WAITING && start[number] <= beat;
        }

        /** Greater for what is looked at earlier: by rows, then by weights, then by numbers. */
        private int keyOf(int itsRow, int number) {
            return (itsRow * 10 + weight[number]) * 16 + (CAPACITY - 1 - number);
        }

        // Bounded, as the answer is an index.
        private static int numberOf(int key) {
            return Math.max(0, CAPACITY - 1 - (key & 15));
        }

        private void sortKeys(int many) {
            for (int i = 1; i < many; i++) {
                int key = keys[i];
                int k = i;
                while (k > 0 && keys[k - 1] < key) {
                    keys[k] = keys[k - 1];
                    k--;
                }
                keys[k] = key;
            }
        }

        private int stepOf(int number) {
            int itsRow = row[number];
            if (itsRow < 0 || itsRow >= LOWEST_ROW) {
                return STAY;
            }
            int beneath = filled[itsRow + 1] & span[number];
            if (beneath == 0) {
                return FALL;
            }
            // Twice the middle: a line leans to the side on which, from the middle on, nothing is beneath it.
            int firstAndLast = 2 * column[number] + width[number] - 1;
            int upToMiddle = (2 << firstAndLast / 2) - 1;
            if ((beneath & upToMiddle) == 0) {
                return isFreeBeside(number, false) ? LEFT : STAY;
            }
            int fromMiddle = beneath >> (firstAndLast + 1) / 2;
            if (fromMiddle == 0) {
                return isFreeBeside(number, true) ? RIGHT : STAY;
            }
            return STAY;
        }

        private void takeStep(int number, int step) {
            if (step == FALL) {
                fall(number);
            } else {
                slide(number, step == RIGHT);
            }
        }

        private void fall(int number) {
            int itsRow = row[number];
            if (itsRow < 0 || itsRow >= LOWEST_ROW) {
                return;
            }
            filled[itsRow] &= ~span[number];
            filled[itsRow + 1] |= span[number];
            row[number] = itsRow + 1;
        }

        /** Whether a line is on the screen, and the square beside it is there, too, and free. */
        boolean isFreeBeside(int number, boolean right) {
            int itsRow = row[number];
            int beside = right ? column[number] + width[number] : column[number] - 1;
            boolean isThere = itsRow >= 0 && itsRow < ROWS && beside >= 0 && beside < COLUMNS;
            return isThere && (filled[itsRow] >> beside & 1) == 0;
        }

        /** Moves a line beside which the square is free. */
        void slide(int number, boolean right) {
            int itsRow = row[number];
            if (itsRow < 0 || itsRow >= ROWS) {
                return;
            }
            filled[itsRow] &= ~span[number];
            span[number] = right ? span[number] << 1 : span[number] >> 1;
            column[number] += right ? 1 : -1;
            filled[itsRow] |= span[number];
        }

        private void takeAway(int number) {
            if (isOnScreen(number)) {
                filled[row[number]] &= ~span[number];
            }
            row[number] = GONE;
        }

        /** The lines that have a square in a row and beneath or above those of a line, as a mask. */
        private int linesNear(int number, int nearRow) {
            if (row[number] < 0 || nearRow < 0 || nearRow >= ROWS) {
                return 0;
            }
            if ((filled[nearRow] & span[number]) == 0) {
                return 0;
            }
            int near = 0;
            for (int i = 0; i < size; i++) {
                if (row[i] == nearRow && (span[i] & span[number]) != 0) {
                    near |= 1 << i;
                }
            }
            return near;
        }

        private int loadOf(int number) {
            int above = linesNear(number, row[number] - 1);
            if (above == 0) {
                return 0;
            }
            int load = 0;
            for (int i = 0; i < size; i++) {
                if ((above >> i & 1) != 0) {
                    load += weight[i];
                }
            }
            return load;
        }

        private int strengthOf(int number) {
            return strength * width[number];
        }

        private boolean isAtRest(int number) {
            return isOnScreen(number) && stepOf(number) == STAY;
        }

        private boolean isAllAtRest() {
            for (int i = 0; i < size; i++) {
                boolean moves = isOnScreen(i) && !isAtRest(i);
                if (moves || isDue(i) || loadOf(i) > strengthOf(i)) {
                    return false;
                }
            }
            return true;
        }

        private int stateOf(int number) {
            if (row[number] == GONE) {
                return 3;
            }
            if (row[number] == WAITING) {
                return 0;
            }
            return isAtRest(number) ? 2 : 1;
        }

        /** The place of a line in the order of reading; NONE if it is not on the screen. */
        private int placeOf(int number) {
            if (!isOnScreen(number)) {
                return NONE;
            }
            int place = 0;
            for (int i = 0; i < size; i++) {
                boolean sooner = row[i] == row[number] && column[i] < column[number];
                if (isOnScreen(i) && (row[i] < row[number] || sooner)) {
                    place++;
                }
            }
            return place;
        }

        int readAt(int place) {
            for (int i = 0; i < size; i++) {
                if (isOnScreen(i) && placeOf(i) == place) {
                    return i;
                }
            }
            return NONE;
        }

        int lineOn(int itsRow, int itsColumn) {
            if (itsRow < 0 || itsRow >= ROWS || (filled[itsRow] >> itsColumn & 1) == 0) {
                return NONE;
            }
            for (int i = 0; i < size; i++) {
                if (row[i] == itsRow && (span[i] >> itsColumn & 1) != 0) {
                    return i;
                }
            }
            return NONE;
        }

        int property(int number, int what) {
            switch (what) {
                case 0: return width[number];
                case 1: return weight[number];
                case 2: return verse[number];
                case 3: return column[number];
                case 4: return start[number];
                case 5: return stateOf(number);
                case 6: return isOnScreen(number) ? row[number] : NONE;
                case 7: return loadOf(number);
                case 8: return strengthOf(number);
                case 9: return linesNear(number, row[number] + 1);
                case 10: return linesNear(number, row[number] - 1);
                default: return placeOf(number);
            }
        }

        int tally(int what) {
            switch (what) {
                case 0: return beat;
                case 1: return size;
                case 2: return size - linesGone() - linesOnScreen();
                case 3: return linesOnScreen();
                case 4: return linesAtRest();
                case 5: return linesGone();
                case 6: return broken;
                case 7: return topmostRow();
                case 8: return squares();
                case 9: return isAllAtRest() ? 1 : 0;
                default: return greatestLoad();
            }
        }

        private int linesOnScreen() {
            int many = 0;
            for (int i = 0; i < size; i++) {
                many += isOnScreen(i) ? 1 : 0;
            }
            return many;
        }

        private int linesAtRest() {
            int many = 0;
            for (int i = 0; i < size; i++) {
                many += isAtRest(i) ? 1 : 0;
            }
            return many;
        }

        private int linesGone() {
            int many = 0;
            for (int i = 0; i < size; i++) {
                many += row[i] == GONE ? 1 : 0;
            }
            return many;
        }

        private int topmostRow() {
            for (int r = 0; r < ROWS; r++) {
                if (filled[r] != 0) {
                    return r;
                }
            }
            return NONE;
        }

        int squares() {
            int many = 0;
            for (int i = 0; i < size; i++) {
                many += isOnScreen(i) ? width[i] : 0;
            }
            return many;
        }

        private int greatestLoad() {
            int greatest = 0;
            for (int i = 0; i < size; i++) {
                greatest = Math.max(greatest, loadOf(i));
            }
            return greatest;
        }
    }

    /** The saved states, the oldest one first. */
    private static final class History {
        int kept = 0;
        // All are made at once and used again, so that no call makes an object.
        private final Poem[] states = new Poem[MAX_SAVED];

        History() {
            for (int i = 0; i < MAX_SAVED; i++) {
                states[i] = new Poem();
            }
        }

        void keep(Poem poem) {
            if (kept >= MAX_SAVED) {
                dropOldest();
            }
            states[kept].copyFrom(poem);
            kept++;
        }

        void giveBackTo(Poem poem) {
            if (kept < 1) {
                return;
            }
            kept--;
            poem.copyFrom(states[kept]);
        }

        private void dropOldest() {
            Poem oldest = states[0];
            for (int i = 1; i < MAX_SAVED; i++) {
                states[i - 1] = states[i];
            }
            states[MAX_SAVED - 1] = oldest;
            kept = MAX_SAVED - 1;
        }
    }

    /** The buffer, and what its characters tell. */
    private static final class PoemText {
        // The numbers of a line in a text, in their order.
        static final int WIDTH = 0;
        static final int WEIGHT = 1;
        static final int COLUMN = 2;
        static final int BEATS = 3;

        int length = 0;
        final int[] codes = new int[MAX_TEXT];
        // The numbers of the line that is scanned: NONE before the first digit, 0 for beats that are not told.
        final int[] told = new int[BEATS + 1];
        private int part = WIDTH;

        void add(int code) {
            if (length < MAX_TEXT) {
                codes[length] = code;
                length++;
            }
        }

        /** Returns the index of the first syntax error; the length if there is none. */
        int scan() {
            beginLine();
            for (int i = 0; i < length; i++) {
                if (!accepts(codes[i])) {
                    return i;
                }
            }
            return length;
        }

        boolean tellsPoem() {
            return scan() == length && part >= COLUMN && told[part] != NONE;
        }

        /** Finds the numbers of the line that begins at an index; returns where the next one begins. */
        int scanLine(int from) {
            beginLine();
            for (int i = Math.max(0, from); i < length; i++) {
                if (codes[i] == ';') {
                    return i + 1;
                }
                accepts(codes[i]);
            }
            return length;
        }

        private void beginLine() {
            part = WIDTH;
            told[WIDTH] = NONE;
            told[BEATS] = 0;
        }

        private boolean accepts(int code) {
            return code >= '0' && code <= '9' ? acceptsDigit(code - '0') : acceptsSign(code);
        }

        private boolean acceptsDigit(int digit) {
            int before = told[part];
            // A number that is 0 has no further digits.
            int value = before == NONE ? digit : before * 10 + digit;
            if (before == 0 || value < leastOf(part) || value > greatestOf(part)) {
                return false;
            }
            told[part] = value;
            return true;
        }

        private boolean acceptsSign(int code) {
            if (told[part] == NONE) {
                return false;
            }
            if (code == ';' && part >= COLUMN) {
                beginLine();
                return true;
            }
            if (part >= BEATS || code != signBehind(part)) {
                return false;
            }
            part++;
            told[part] = NONE;
            return true;
        }

        private static int signBehind(int which) {
            switch (which) {
                case WIDTH: return 'w';
                case WEIGHT: return '@';
                default: return '+';
            }
        }

        private static int leastOf(int which) {
            return which == WIDTH || which == WEIGHT ? 1 : 0;
        }

        private static int greatestOf(int which) {
            switch (which) {
                case WIDTH: return MAX_WIDTH;
                case WEIGHT: return MAX_WEIGHT;
                case COLUMN: return COLUMNS - 1;
                default: return 50;
            }
        }
    }
}
