/** The promises 1 to 6 and 12 to 20: a test for each sentence that names a bound; the sentence stands above it. */
final class EdgeTest {
    private static final int NONE = FallingLines.NONE;

    private EdgeTest() {
    }

    public static void main(String[] args) {
        newObject();
        lineWaits();
        goneLinesCount();
        runBounds();
        runBreaks();
        runBeat999();
        resetVerses();
        pushSides();
        pushTaken();
        pushOnlyOnTheScreen();
        setPrevious();
        lineOfBounds();
        lineOfOffTheScreen();
        lineOfMasks();
        atBounds();
        readsBounds();
        counts();
        countTopmost();
        countBroken();
        untilRestBounds();
        untilRestNever();
        beatsWithoutLimit();
        droppedNow();
        droppedEleventh();
        droppedGone();
        droppedBreaks();
        droppedNever();
        droppedLongUntilRest();
        bestLowestRow();
        bestFewestBreaks();
        bestNone();
        resetHolds();
        resetFallsAnyway();
        resetGone();
        resetNever();
        looksChangeNothing();
        share();
        Check.end("EdgeTest");
    }

    // "Creates an empty screen at the beat 0, with an empty buffer."
    private static void newObject() {
        FallingLines x = new FallingLines();
        Check.due("squares", x.count(8), 0);
        Check.due("lines", x.count(1), 0);
        Check.due("the beat", x.count(0), 0);
        Check.due("the buffer", x.clearBuffer(), 0);
        Check.due("states", x.count(11), 0);
        x.line(1, 1, 0, 0, 0);
        x.run(1);
        Check.due("another one is empty all the same", new FallingLines().count(1), 0);
    }

    // "Adds a line, which waits. .. Returns its number."
    private static void lineWaits() {
        FallingLines x = new FallingLines();
        x.run(9);
        Check.due("its number", x.line(2, 2, 2, 2, 0), 0);
        Check.due("it waits, though its beat has gone by", x.lineOf(0, 5), 0);
        Check.due("the screen is empty", x.count(8), 0);
        Check.due("the next one", x.line(2, 2, 2, 2, 9), 1);
        Check.due("undone", x.undo(), 2);
        Check.due("the same number again", x.line(3, 3, 3, 3, 3), 1);
    }

    // "Throws IllegalStateException if there are 10 lines (gone ones, too)"
    private static void goneLinesCount() {
        FallingLines x = new FallingLines();
        for (int i = 0; i < 9; i++) {
            x.line(1, 1, i, i % 2, 0);
        }
        x.reset(0);
        x.reset(1);
        Check.due("the tenth", x.line(1, 1, 0, 0, 0), 9);
        Check.state("the eleventh", () -> x.line(1, 1, 0, 0, 0));
        x.reset(0);
        Check.state("though all are gone", () -> x.line(1, 1, 0, 0, 0));
        x.undo();
        x.undo();
        Check.due("undone, there is room", x.line(1, 1, 0, 0, 0), 9);
    }

    // "beats: 1 to 50" "Undoable, as one call."
    private static void runBounds() {
        FallingLines x = new FallingLines();
        Check.argument("0", () -> x.run(0));
        Check.argument("51", () -> x.run(51));
        Check.argument("the least", () -> x.run(Integer.MIN_VALUE));
        Check.argument("the greatest", () -> x.run(Integer.MAX_VALUE));
        Check.due("1", x.run(1), 0);
        Check.due("50", x.run(50), 0);
        Check.due("the beat", x.count(0), 51);
        Check.due("one state for 50 beats", x.undo(), 1);
        Check.due("the beat before them", x.count(0), 1);
    }

    // "Returns how many lines break in them."
    private static void runBreaks() {
        FallingLines x = new FallingLines();
        for (int i = 0; i < 4; i++) {
            x.line(1, 9, 5, 0, 10 * i);
        }
        Check.due("none lies on another", x.run(14), 0);
        Check.due("the second one breaks the first one", x.run(1), 1);
        Check.due("nothing more", x.run(5), 0);
        Check.due("two more", x.run(20), 2);
        Check.due("three so far", x.count(6), 3);
    }

    // "Throws IllegalStateException if the beat would be above 999"
    private static void runBeat999() {
        FallingLines x = new FallingLines();
        for (int i = 0; i < 19; i++) {
            x.run(50);
        }
        Check.state("1000", () -> x.run(50));
        Check.due("999", x.run(49), 0);
        Check.state("above it by 1", () -> x.run(1));
        Check.state("above it by 50", () -> x.run(50));
        Check.due("the beat", x.count(0), 999);
        x.undo();
        Check.due("undone", x.run(1), 0);
    }

    // "its lines are gone, also those that wait" "Returns how many lines are gone by that." "verse: 0 to 3"
    private static void resetVerses() {
        FallingLines x = new FallingLines();
        for (int i = 0; i < 10; i++) {
            x.line(1, 9, i, i % 4, i < 6 ? 0 : 50);
        }
        x.run(5);
        Check.argument("-1", () -> x.reset(-1));
        Check.argument("4", () -> x.reset(4));
        Check.due("two on the screen, one that waits", x.reset(0), 3);
        Check.due("they are gone already", x.reset(0), 0);
        Check.due("one on the screen, one that waits", x.reset(3), 2);
        Check.due("those of another verse stay", x.count(5), 5);
        Check.due("those of the verse 1", x.reset(1), 3);
        Check.due("those of the verse 2", x.reset(2), 2);
        Check.due("none is on the screen", x.count(3), 0);
        Check.due("none waits", x.count(2), 0);
        x.run(50);
        Check.due("none comes later", x.count(5), 10);
    }

    // "Pushes a line on the screen to a side by a column." "Returns its first column then."
    private static void pushSides() {
        FallingLines x = new FallingLines();
        x.line(3, 1, 1, 0, 0);
        x.line(3, 1, 20, 0, 0);
        x.run(2);
        Check.due("to the column 0", x.push(0, false), 0);
        Check.state("no further", () -> x.push(0, false));
        Check.due("to the column 23", x.push(1, true), 21);
        Check.state("no further, either", () -> x.push(1, true));
        Check.due("back", x.push(0, true), 1);
        Check.due("back, too", x.push(1, false), 20);
        Check.due("in its row", Poems.place(x, 0), 102);
        Check.due("it leaves a square", x.at(2, 0), NONE);
        Check.due("it takes a square", x.at(2, 3), 0);
        FallingLines post = Poems.posts(5);
        post.line(3, 1, 4, 0, 0);
        post.run(20);
        Check.due("off its middle", post.push(1, true), 5);
        Check.due("it is not at rest then", post.lineOf(1, 5), 1);
        post.run(10);
        Check.due("it slides off", Poems.place(post, 1), 615);
    }

    // "or the square beside it is .. not free"
    private static void pushTaken() {
        FallingLines x = new FallingLines();
        x.line(2, 9, 4, 0, 0);
        x.line(2, 9, 6, 0, 0);
        x.line(2, 9, 9, 0, 0);
        x.run(20);
        Check.state("another one beside it, right", () -> x.push(0, true));
        Check.state("another one beside it, left", () -> x.push(1, false));
        Check.due("a free square between", x.push(1, true), 7);
        Check.state("none between", () -> x.push(1, true));
        Check.due("only its own row counts", x.push(0, true), 5);
    }

    // "Throws IndexOutOfBoundsException if there is no such line" "IllegalStateException if it is not on the screen"
    private static void pushOnlyOnTheScreen() {
        FallingLines x = new FallingLines();
        Check.index("no line at all", () -> x.push(0, true));
        x.line(2, 9, 4, 1, 9);
        Check.index("the number behind the last", () -> x.push(1, false));
        Check.index("the number before the first", () -> x.push(-1, false));
        Check.state("it waits", () -> x.push(0, true));
        x.run(10);
        Check.due("it is on the screen", x.push(0, true), 5);
        x.reset(1);
        Check.state("it is gone", () -> x.push(0, true));
        Check.state("to no side", () -> x.push(0, false));
    }

    // "Changes the setting 0. .. Returns the previous one."
    private static void setPrevious() {
        FallingLines x = new FallingLines();
        x.line(3, 1, 0, 0, 0);
        Check.due("2 at first", x.set(9), 2);
        Check.due("the greatest", x.lineOf(0, 8), 27);
        Check.due("9 then", x.set(1), 9);
        Check.due("the least", x.lineOf(0, 8), 3);
        Check.argument("0", () -> x.set(0));
        Check.argument("10", () -> x.set(10));
        Check.due("as it was", x.lineOf(0, 8), 3);
    }

    // "Throws IndexOutOfBoundsException if there is no such line" "IllegalArgumentException if what is not 0 to 11"
    private static void lineOfBounds() {
        FallingLines x = new FallingLines();
        Check.index("no line at all", () -> x.lineOf(0, 0));
        x.line(4, 4, 4, 3, 4);
        x.line(5, 5, 5, 2, 5);
        Check.due("the first one's first", x.lineOf(0, 0), 4);
        Check.due("the last one's last", x.lineOf(1, 11), NONE);
        Check.index("the number 2", () -> x.lineOf(2, 0));
        Check.index("the number -1", () -> x.lineOf(-1, 0));
        Check.argument("12", () -> x.lineOf(1, 12));
        Check.argument("-1", () -> x.lineOf(1, -1));
        x.undo();
        Check.index("undone", () -> x.lineOf(1, 0));
    }

    // "NONE if it is not on the screen" "(0 for 7, 9 and 10 if it is not on the screen)"
    private static void lineOfOffTheScreen() {
        FallingLines x = new FallingLines();
        x.line(2, 3, 4, 1, 0);
        x.line(2, 3, 4, 2, 20);
        x.line(2, 3, 4, 3, 0);
        x.run(16);
        x.reset(1);
        int[] waits = {2, 3, 2, 4, 20, 0, NONE, 0, 4, 0, 0, NONE};
        int[] gone = {2, 3, 1, 4, 0, 3, NONE, 0, 4, 0, 0, NONE};
        for (int what = 0; what <= 11; what++) {
            Check.due("it waits, " + what, x.lineOf(1, what), waits[what]);
            Check.due("it is gone, " + what, x.lineOf(0, what), gone[what]);
        }
        FallingLines top = Poems.posts(5);
        top.line(1, 1, 4, 0, 0);
        Check.due("before its beat goes by", top.lineOf(1, 6), NONE);
        top.run(1);
        Check.due("then", top.lineOf(1, 6), 1);
    }

    // "9: the lines directly beneath it, 10: directly above it, as masks: bit k for the line k"
    private static void lineOfMasks() {
        FallingLines x = new FallingLines();
        x.set(9);
        for (int i = 0; i < 9; i++) {
            x.line(1, 9, 2 * i, 0, 0);
        }
        x.run(5);
        x.line(12, 1, 3, 0, 0);
        x.run(20);
        Check.due("beneath the line 9", x.lineOf(9, 9), 4 + 8 + 16 + 32 + 64 + 128);
        Check.due("nothing above it", x.lineOf(9, 10), 0);
        Check.due("above the line 2", x.lineOf(2, 10), 512);
        Check.due("nothing beneath the ground", x.lineOf(2, 9), 0);
        Check.due("nothing above the line 1, beside it", x.lineOf(1, 10), 0);
        Check.due("nothing above the line 8", x.lineOf(8, 10), 0);
        FallingLines once = new FallingLines();
        once.set(9);
        once.line(3, 9, 5, 0, 0);
        once.line(3, 9, 5, 0, 5);
        once.run(30);
        Check.due("of three squares, once", once.lineOf(0, 10), 2);
        Check.due("beneath three squares, once", once.lineOf(1, 9), 1);
    }

    // "Throws IllegalArgumentException if row or column is out of range" "NONE if it is free"
    private static void atBounds() {
        FallingLines x = new FallingLines();
        x.line(12, 9, 0, 0, 0);
        x.line(12, 9, 12, 0, 0);
        x.run(5);
        Check.due("the first one of its row", x.at(15, 0), 0);
        Check.due("its last", x.at(15, 11), 0);
        Check.due("the other's first", x.at(15, 12), 1);
        Check.due("the other's last", x.at(15, 23), 1);
        for (int column = 0; column < 24; column++) {
            Check.due("above them", x.at(14, column), NONE);
        }
        Check.argument("row -1", () -> x.at(-1, 0));
        Check.argument("row 16", () -> x.at(16, 0));
        Check.argument("column -1", () -> x.at(15, -1));
        Check.argument("column 24", () -> x.at(15, 24));
        Check.argument("column 32", () -> x.at(15, 32));
        x.reset(0);
        Check.due("free again", x.at(15, 0), NONE);
    }

    // "NONE if there are not so many on the screen" "Throws IllegalArgumentException if place is below 0"
    private static void readsBounds() {
        FallingLines x = new FallingLines();
        Check.due("nothing to read", x.reads(0), NONE);
        x.line(1, 1, 9, 0, 0);
        x.line(1, 1, 3, 0, 0);
        x.line(1, 1, 6, 0, 50);
        Check.due("waiting ones are not read", x.reads(0), NONE);
        x.run(3);
        Check.due("the first one", x.reads(0), 1);
        Check.due("the last one", x.reads(1), 0);
        Check.due("one that waits", x.reads(2), NONE);
        Check.due("far behind", x.reads(Integer.MAX_VALUE), NONE);
        Check.argument("below 0", () -> x.reads(-1));
        x.reset(0);
        Check.due("gone ones are not read", x.reads(0), NONE);
    }

    // The numbers of count, and "Throws IllegalArgumentException if what is not 0 to 11"
    private static void counts() {
        FallingLines x = new FallingLines();
        Check.argument("-1", () -> x.count(-1));
        Check.argument("12", () -> x.count(12));
        x.set(3);
        x.line(4, 9, 4, 1, 0);
        x.line(2, 2, 4, 2, 8);
        x.line(1, 3, 7, 2, 8);
        x.line(3, 1, 20, 3, 0);
        x.line(3, 1, 20, 0, 90);
        x.run(50);
        int[] rest = {50, 5, 1, 4, 4, 0, 0, 14, 10, 1, 5, 6};
        for (int what = 0; what <= 11; what++) {
            Check.due("at rest, " + what, x.count(what), rest[what]);
        }
        x.reset(1);
        int[] then = {50, 5, 1, 3, 1, 1, 0, 14, 6, 0, 0, 6};
        for (int what = 0; what <= 11; what++) {
            Check.due("a verse less, " + what, x.count(what), then[what]);
        }
    }

    // "7: the topmost row with a line, NONE without one"
    private static void countTopmost() {
        FallingLines x = new FallingLines();
        Check.due("without one", x.count(7), NONE);
        x.line(2, 1, 0, 0, 0);
        Check.due("with one that waits", x.count(7), NONE);
        for (int row = 1; row <= 15; row++) {
            x.run(1);
            Check.due("in the row", x.count(7), row);
        }
        x.reset(0);
        Check.due("with one that is gone", x.count(7), NONE);
        FallingLines top = new FallingLines();
        top.set(9);
        top.line(1, 1, 4, 0, 0);
        top.line(2, 4, 4, 0, 1);
        top.line(1, 1, 6, 0, 1);
        top.run(2);
        Check.due("one above another that came down beside it", top.count(7), 0);
    }

    // "6: lines that broke so far": not those of a verse that was taken away
    private static void countBroken() {
        FallingLines x = new FallingLines();
        x.line(1, 9, 5, 1, 0);
        x.line(1, 9, 5, 2, 0);
        x.run(20);
        Check.due("one broke", x.count(6), 1);
        Check.due("and is gone", x.count(5), 1);
        x.reset(2);
        Check.due("still one broke", x.count(6), 1);
        Check.due("two are gone", x.count(5), 2);
        Check.due("one that broke is not taken away", x.reset(1), 0);
    }

    // "Returns in how many beats, 0 to 200"
    private static void untilRestBounds() {
        FallingLines x = new FallingLines();
        Check.due("no line", x.untilRest(), 0);
        x.line(1, 1, 0, 0, 1);
        Check.due("it waits for later", x.untilRest(), 0);
        x.run(1);
        for (int beats = 15; beats >= 0; beats--) {
            Check.due("beats", x.untilRest(), beats);
            x.run(1);
        }
        Check.due("still at rest", x.untilRest(), 0);
        FallingLines late = longUntilRest();
        Check.due("long", late.untilRest(), 163);
        for (int i = 0; i < 3; i++) {
            late.run(50);
        }
        late.run(12);
        Check.due("not at rest before", late.count(9), 0);
        late.run(1);
        Check.due("at rest then", late.count(9), 1);
    }

    /** Ten lines that come late, and get into each other's way; droppedLongUntilRest has eleven. */
    private static FallingLines longUntilRest() {
        int[][] lines = {{12, 1, 0, 99}, {1, 3, 12, 0}, {7, 4, 5, 99}, {6, 3, 2, 99}, {12, 2, 0, 99}, {7, 8, 5, 99},
            {12, 2, 3, 15}, {12, 2, 0, 99}, {12, 3, 0, 99}, {1, 4, 0, 23}};
        FallingLines x = new FallingLines();
        for (int[] line : lines) {
            x.line(line[0], line[1], line[2], 0, line[3]);
        }
        return x;
    }

    // "NONE if not within these"
    private static void untilRestNever() {
        FallingLines x = Poems.restless();
        Check.due("never", x.untilRest(), NONE);
        x.run(50);
        Check.due("nor later", x.untilRest(), NONE);
        Check.due("it is the sliding one", x.lineOf(2, 5), 1);
        x.reset(3);
        Check.due("without it", x.untilRest(), 0);
    }

    // "what would be; nothing is changed, and the limit of beats does not matter"
    private static void beatsWithoutLimit() {
        FallingLines x = new FallingLines();
        for (int i = 0; i < 19; i++) {
            x.run(50);
        }
        x.run(49);
        x.line(2, 1, 0, 1, 99);
        Check.due("untilRest", x.untilRest(), 15);
        Check.due("ifDropped, row", x.ifDropped(2, 1, 0, 0), 14);
        Check.due("ifDropped, column", x.ifDropped(3, 4, 12, 1), 12);
        Check.due("ifDropped, breaks", x.ifDropped(2, 9, 0, 2), 0);
        Check.due("bestColumn", x.bestColumn(2, 1), 1);
        Check.due("ifReset", x.ifReset(1), 0);
        Check.due("the beat", x.count(0), 999);
    }

    // "Tells what another line, of the verse 0, let go now, would do"
    private static void droppedNow() {
        FallingLines x = new FallingLines();
        x.set(9);
        x.run(30);
        x.line(2, 1, 4, 0, 31);
        Check.due("before one that waits for later", x.ifDropped(2, 1, 4, 0), 15);
        x.undo();
        x.line(2, 1, 4, 0, 30);
        Check.due("after one that waits for now, of its weight", x.ifDropped(2, 1, 4, 0), 14);
        Check.due("before one that waits for now, lighter", x.ifDropped(2, 2, 4, 0), 15);
        FallingLines waits = new FallingLines();
        waits.set(9);
        for (int i = 0; i < 5; i++) {
            waits.line(12, 9, 0, 0, 0);
        }
        Check.due("it waits until the others have come", waits.ifDropped(12, 9, 0, 0), 10);
    }

    // "(there may be 10 already)"
    private static void droppedEleventh() {
        FallingLines x = new FallingLines();
        x.set(9);
        for (int i = 0; i < 10; i++) {
            x.line(12, 9, 0, 1, 0);
        }
        Check.due("on ten others, row", x.ifDropped(12, 9, 0, 0), 5);
        Check.due("on ten others, column", x.ifDropped(12, 9, 0, 1), 0);
        Check.due("on ten others, breaks", x.ifDropped(12, 9, 0, 2), 0);
        Check.due("off them by slides", x.bestColumn(12, 9), 6);
        Check.due("there are ten", x.count(1), 10);
        x.reset(1);
        Check.due("ten are gone", x.ifDropped(1, 1, 23, 0), 15);
    }

    // "NONE for both if it is not on the screen then"
    private static void droppedGone() {
        FallingLines x = new FallingLines();
        x.line(1, 9, 5, 1, 1);
        Check.due("one overtakes it, row", x.ifDropped(1, 1, 5, 0), NONE);
        Check.due("one overtakes it, column", x.ifDropped(1, 1, 5, 1), NONE);
        Check.due("one overtakes it, breaks: it too", x.ifDropped(1, 1, 5, 2), 1);
        Check.due("not beside it", x.ifDropped(1, 1, 6, 0), 15);
        Check.due("not a stronger one", x.ifDropped(5, 1, 3, 1), 3);
    }

    // "2: how many lines break until then, or within 200 beats, it too"
    private static void droppedBreaks() {
        FallingLines x = new FallingLines();
        x.line(1, 9, 5, 0, 0);
        x.line(1, 9, 5, 0, 5);
        x.run(20);
        Check.due("one broke before", x.count(6), 1);
        Check.due("that one does not count", x.ifDropped(1, 1, 5, 2), 0);
        Check.due("one breaks", x.ifDropped(1, 9, 5, 2), 1);
        x.line(1, 9, 5, 0, 50);
        Check.due("not what breaks after all is at rest", x.ifDropped(1, 1, 12, 2), 0);
        Check.due("its row before that", x.ifDropped(1, 1, 5, 0), 14);
        Check.argument("3", () -> x.ifDropped(1, 1, 5, 3));
        Check.argument("-1", () -> x.ifDropped(1, 1, 5, -1));
    }

    // "or all is not at rest within 200 beats" "2: how many lines break .. within 200 beats"
    private static void droppedNever() {
        FallingLines x = Poems.restless();
        Check.due("row", x.ifDropped(1, 1, 12, 0), NONE);
        Check.due("column", x.ifDropped(1, 1, 12, 1), NONE);
        Check.due("breaks", x.ifDropped(1, 1, 12, 2), 0);
        FallingLines late = new FallingLines();
        late.set(1);
        late.line(1, 9, 2, 1, 0);
        late.line(1, 9, 6, 1, 0);
        late.run(5);
        late.line(4, 1, 3, 1, 0);
        late.run(20);
        late.line(1, 9, 15, 2, 99);
        Check.due("it never rests", late.untilRest(), NONE);
        Check.due("it breaks at the beat 104", late.ifDropped(1, 1, 15, 2), 1);
        Check.due("it is gone, and nothing rests", late.ifDropped(1, 1, 15, 0), NONE);
    }

    // "its row .. when all is at rest .. within 200 beats": here after 173, the longest that was found
    private static void droppedLongUntilRest() {
        int[][] lines = {{6, 3, 16, 99}, {10, 3, 13, 99}, {11, 3, 12, 99}, {7, 7, 0, 8}, {11, 3, 12, 99},
            {11, 3, 12, 99}, {6, 9, 13, 99}, {12, 3, 12, 99}, {8, 1, 11, 15}, {9, 7, 15, 2}};
        FallingLines x = new FallingLines();
        x.set(1);
        for (int[] line : lines) {
            x.line(line[0], line[1], line[2], 0, line[3]);
        }
        Check.due("without it all waits", x.untilRest(), 0);
        Check.due("row", x.ifDropped(10, 2, 14, 0), 15);
        Check.due("column", x.ifDropped(10, 2, 14, 1), 14);
        Check.due("breaks", x.ifDropped(10, 2, 14, 2), 5);
    }

    // "the one with which that is the greatest (the lowest row) .. of several the lowest one"
    private static void bestLowestRow() {
        FallingLines x = new FallingLines();
        Check.due("all are as good", x.bestColumn(1, 1), 0);
        Check.due("for the widest, too", x.bestColumn(12, 1), 0);
        x.set(9);
        x.line(12, 9, 0, 0, 0);
        x.line(11, 9, 12, 0, 0);
        x.run(5);
        Check.due("the last column alone", x.bestColumn(1, 1), 23);
        Check.due("nowhere but on top", x.bestColumn(2, 1), 0);
        FallingLines slides = Poems.posts(0);
        Check.due("by a slide", slides.bestColumn(2, 1), 0);
        Check.due("a narrow one does not slide", slides.bestColumn(1, 1), 1);
        FallingLines last = new FallingLines();
        last.set(9);
        last.line(12, 9, 0, 0, 0);
        last.run(5);
        Check.due("the last column of all", last.bestColumn(12, 1), 6);
    }

    // "of several the one by which the fewest lines break"
    private static void bestFewestBreaks() {
        FallingLines x = new FallingLines();
        x.line(1, 9, 0, 0, 0);
        x.line(1, 9, 1, 0, 0);
        x.run(5);
        Check.due("to the ground by a break", x.ifDropped(1, 9, 0, 0), 15);
        Check.due("one breaks", x.ifDropped(1, 9, 0, 2), 1);
        Check.due("rather none", x.bestColumn(1, 9), 2);
        FallingLines covered = coveredBut(2);
        Check.due("the lowest row, though one breaks", covered.bestColumn(1, 9), 22);
        Check.due("of two columns with a break each the lower one", covered.ifDropped(1, 9, 23, 2), 1);
        covered.line(1, 1, 22, 0, 0);
        covered.run(20);
        Check.due("two break in the column 22", covered.ifDropped(1, 9, 22, 2), 2);
        Check.due("with the same row", covered.ifDropped(1, 9, 22, 0), covered.ifDropped(1, 9, 23, 0));
        Check.due("one breaks in the column 23", covered.bestColumn(1, 9), 23);
    }

    /** The ground is covered; the last columns by narrow lines, which are weak. */
    private static FallingLines coveredBut(int narrow) {
        FallingLines x = new FallingLines();
        x.line(12, 9, 0, 0, 0);
        x.line(12 - narrow, 9, 12, 0, 0);
        for (int column = 24 - narrow; column < 24; column++) {
            x.line(1, 9, column, 0, 0);
        }
        x.run(5);
        return x;
    }

    // "NONE if there is none of these"
    private static void bestNone() {
        FallingLines never = Poems.posts(2, 6, 14, 18);
        never.line(4, 1, 3, 0, 0);
        never.line(4, 1, 15, 0, 0);
        never.run(20);
        for (int width = 1; width <= 4; width++) {
            Check.due("two slide, and it stops one at most", never.bestColumn(width, 1), NONE);
        }
        FallingLines x = new FallingLines();
        x.set(1);
        for (int column = 0; column < 24; column += 6) {
            x.line(6, 9, column, 0, 1);
        }
        for (int column = 0; column <= 12; column++) {
            Check.due("it breaks wherever it is", x.ifDropped(12, 1, column, 0), NONE);
            Check.due("it counts", x.ifDropped(12, 1, column, 2) > 0 ? 1 : 0, 1);
        }
        Check.due("then all is at rest, but it is gone", x.bestColumn(12, 1), NONE);
        x.set(2);
        Check.due("a stronger one does not break", x.bestColumn(12, 1), 0);
    }

    // "how many lines of other verses that are on the screen would be in a lower row"
    private static void resetHolds() {
        FallingLines x = new FallingLines();
        x.set(9);
        x.line(3, 9, 5, 1, 0);
        x.run(5);
        x.line(3, 9, 5, 2, 0);
        x.run(5);
        x.line(3, 9, 5, 3, 0);
        x.line(3, 9, 15, 3, 0);
        x.line(3, 9, 5, 0, 80);
        x.run(5);
        int[] holds = {0, 2, 1, 0};
        for (int verse = 0; verse <= 3; verse++) {
            Check.due("verse " + verse, x.ifReset(verse), holds[verse]);
        }
        Check.argument("-1", () -> x.ifReset(-1));
        Check.argument("4", () -> x.ifReset(4));
    }

    // "compared with their rows now": whatever lets them fall; a slide in its row does not count
    private static void resetFallsAnyway() {
        FallingLines x = new FallingLines();
        x.line(3, 1, 5, 1, 0);
        x.line(3, 1, 10, 2, 0);
        x.line(3, 1, 15, 3, 7);
        x.run(5);
        Check.due("two that fall", x.ifReset(0), 2);
        Check.due("one is its own", x.ifReset(1), 1);
        Check.due("one that waits for later does not count", x.ifReset(3), 2);
        FallingLines slide = new FallingLines();
        slide.set(9);
        slide.line(1, 9, 4, 2, 0);
        slide.line(1, 9, 8, 2, 0);
        slide.line(1, 9, 9, 2, 0);
        slide.line(1, 9, 5, 1, 0);
        slide.run(5);
        slide.line(5, 1, 5, 3, 0);
        slide.run(20);
        Check.due("it would only slide", slide.ifReset(1), 0);
        slide.reset(1);
        slide.run(20);
        Check.due("it slid", Poems.place(slide, 4), 414);
    }

    // "or gone"
    private static void resetGone() {
        FallingLines x = new FallingLines();
        x.line(1, 9, 5, 1, 0);
        x.run(5);
        x.line(1, 2, 5, 2, 0);
        x.run(20);
        x.set(1);
        Check.due("one would break, one would fall", x.ifReset(3), 2);
        Check.due("without the upper one none does", x.ifReset(2), 0);
        Check.due("without the lower one it falls", x.ifReset(1), 1);
    }

    // "NONE if all is not at rest within 200 beats then"
    private static void resetNever() {
        FallingLines x = Poems.restless();
        Check.due("without no line", x.ifReset(0), NONE);
        Check.due("without the left post the sliding one falls", x.ifReset(1), 1);
        Check.due("without the right post, too", x.ifReset(2), 1);
        Check.due("without the sliding one", x.ifReset(3), 0);
    }

    // "looks; nothing is changed" "what would be; nothing is changed"
    private static void looksChangeNothing() {
        FallingLines x = Poems.typed("1w1@1?");
        for (int i = 0; i < 8; i++) {
            x.line(1 + i, 9 - i, 20 - 2 * i - i / 2, i % 4, i);
        }
        x.run(6);
        long before = x.digest();
        x.lineOf(3, 9);
        x.at(5, 5);
        x.reads(2);
        x.count(9);
        x.untilRest();
        x.ifDropped(12, 9, 0, 2);
        x.bestColumn(3, 9);
        x.ifReset(2);
        x.fullness();
        x.firstError();
        Check.due("nothing is changed", x.digest(), before);
        x.run(1);
        Check.due("a beat changes it", x.digest() == before ? 1 : 0, 0);
    }

    private static void shareDue(String what, FallingLines x, int squares) {
        Check.due(what, Double.doubleToLongBits(x.fullness()), Double.doubleToLongBits(squares / 384.0));
    }

    // "Returns the squares that are not free, as a double, divided by 384."
    private static void share() {
        FallingLines x = new FallingLines();
        x.set(9);
        shareDue("none", x, 0);
        for (int i = 0; i < 10; i++) {
            x.line(12, 3, i % 2 * 12, 0, 0);
        }
        shareDue("ten that wait", x, 0);
        int[] squares = {24, 48, 72, 96, 120, 120};
        for (int beats = 0; beats < squares.length; beats++) {
            x.run(1);
            shareDue("two more", x, squares[beats]);
        }
        Check.due("the most", x.count(8), 120);
        for (int width = 1; width <= 12; width++) {
            FallingLines y = new FallingLines();
            y.line(width, 1, 0, 0, 0);
            y.run(1);
            shareDue("one of a width", y, width);
        }
    }
}
