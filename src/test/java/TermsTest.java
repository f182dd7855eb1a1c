/** The head 'Terms', but for what happens in a beat: a test for each sentence, which stands above it. */
final class TermsTest {
    private static final int NONE = FallingLines.NONE;

    private TermsTest() {
    }

    public static void main(String[] args) {
        screen();
        tenLines();
        bounds();
        everyWidthFits();
        noSquareTwice();
        strength();
        firstBeat();
        atRest();
        allAtRest();
        reading();
        setting();
        Check.end("TermsTest");
    }

    // "The screen has 24 columns and 16 rows, numbered from 0; the row 0 is on top, the ground beneath the row 15."
    private static void screen() {
        FallingLines x = new FallingLines();
        Check.due("the first square", x.at(0, 0), NONE);
        Check.due("the last square", x.at(15, 23), NONE);
        Check.argument("no row above the row 0", () -> x.at(-1, 0));
        Check.argument("no row beneath the row 15", () -> x.at(16, 23));
        Check.argument("no column before the column 0", () -> x.at(0, -1));
        Check.argument("no column behind the column 23", () -> x.at(15, 24));
        x.line(1, 1, 0, 0, 0);
        x.line(1, 1, 23, 0, 0);
        x.run(1);
        Check.due("from the row 0 on top to the row 1", x.at(1, 0), 0);
        x.run(14);
        Check.due("the row 15 in the column 0", x.at(15, 0), 0);
        Check.due("the row 15 in the column 23", x.at(15, 23), 1);
        x.run(50);
        Check.due("not beneath it", x.lineOf(0, 6), 15);
    }

    // "There are at most 10 lines, numbered from 0 in the order in which they came."
    private static void tenLines() {
        FallingLines x = new FallingLines();
        for (int i = 0; i < 10; i++) {
            Check.due("numbered in the order", x.line(1 + i, 9 - i % 9, 0, 0, 99 - i), i);
        }
        Check.due("each stays at its number", x.lineOf(9, 0), 10);
        Check.state("no eleventh one", () -> x.line(1, 1, 0, 0, 0));
        Poems.type(x, "1w1@0");
        Check.due("nor one by a text", x.read(), 0);
        Check.due("lines", x.count(1), 10);
    }

    // "A line has a width of 1 to 12 columns, a weight, 1 to 9, a verse, 0 to 3, .. and a beat, 0 to 99"
    private static void bounds() {
        int[][] bounds = {{1, 12}, {1, 9}, {0, 23}, {0, 3}, {0, 99}};
        for (int part = 0; part < bounds.length; part++) {
            int[] line = {1, 1, 0, 0, 0};
            int which = part;
            for (int end = 0; end < 2; end++) {
                FallingLines x = new FallingLines();
                line[part] = bounds[part][end];
                Check.due("in the bounds", x.line(line[0], line[1], line[2], line[3], line[4]), 0);
                Check.due("kept", x.lineOf(0, part < 2 ? part : part == 2 ? 3 : part == 3 ? 2 : 4), line[part]);
                line[which] = end == 0 ? bounds[which][0] - 1 : bounds[which][1] + 1;
                Check.argument("beside the bound", () -> x.line(line[0], line[1], line[2], line[3], line[4]));
            }
        }
    }

    // "a first column (all its columns are on the screen)"
    private static void everyWidthFits() {
        for (int width = 1; width <= 12; width++) {
            FallingLines x = new FallingLines();
            int w = width;
            Check.due("its last column is 23", x.line(w, 1, 24 - w, 0, 0), 0);
            Check.argument("its last column is 24", () -> x.line(w, 1, 25 - w, 0, 0));
            Check.due("dropped, its last column is 23", x.ifDropped(w, 1, 24 - w, 1), 24 - w);
            Check.argument("dropped, its last column is 24", () -> x.ifDropped(w, 1, 25 - w, 0));
        }
    }

    // "It waits; or it is on the screen, in one row; or it is gone. No two lines are on the same square"
    private static void noSquareTwice() {
        for (int beats = 1; beats <= 40; beats += 3) {
            FallingLines x = new FallingLines();
            for (int i = 0; i < 10; i++) {
                x.line(1 + i * 5 % 12, 1 + i * 4 % 9, i * 7 % 13, i % 4, i / 2);
            }
            x.run(beats);
            int[] rows = new int[10];
            int widths = 0;
            for (int i = 0; i < 10; i++) {
                rows[i] = x.lineOf(i, 6);
                widths += rows[i] == NONE ? 0 : x.lineOf(i, 0);
            }
            int taken = 0;
            for (int square = 0; square < 384; square++) {
                int on = x.at(square / 24, square % 24);
                taken += on == NONE ? 0 : 1;
                if (on != NONE) {
                    Check.due("in one row", rows[on], square / 24);
                }
            }
            Check.due("each square of a line is its own", taken, widths);
            Check.due("waiting, on the screen, gone", x.count(2) + x.count(3) + x.count(5), 10);
        }
    }

    // "The strength of a line is setting 0 times its width."
    private static void strength() {
        for (int setting = 1; setting <= 9; setting++) {
            FallingLines x = new FallingLines();
            x.set(setting);
            for (int i = 0; i < 10; i++) {
                x.line(i + 3, 1, 0, 0, 0);
                Check.due("setting " + setting + ", width " + (i + 3), x.lineOf(i, 8), setting * (i + 3));
            }
        }
        FallingLines x = new FallingLines();
        x.line(7, 1, 0, 0, 0);
        Check.due("with the first setting", x.lineOf(0, 8), 14);
    }

    // "The beat is at first 0 (none has gone by)." .. "The beat becomes 1 more."
    private static void firstBeat() {
        FallingLines x = new FallingLines();
        Check.due("at first", x.count(0), 0);
        x.run(1);
        Check.due("1 more", x.count(0), 1);
        x.run(50);
        Check.due("50 more", x.count(0), 51);
    }

    // "A line is at rest if it is on the screen, and would do nothing in a step as all is now."
    private static void atRest() {
        FallingLines x = new FallingLines();
        x.line(2, 1, 4, 0, 0);
        x.line(2, 1, 4, 0, 1);
        x.line(2, 1, 9, 1, 0);
        x.line(2, 1, 20, 0, 90);
        x.run(5);
        x.reset(1);
        Check.due("it can fall", x.lineOf(0, 5), 1);
        Check.due("it lies on one that can", x.lineOf(1, 5), 2);
        Check.due("a gone one is not", x.lineOf(2, 5), 3);
        Check.due("a waiting one is not", x.lineOf(3, 5), 0);
        Check.due("one at rest", x.count(4), 1);
        x.run(50);
        Check.due("on the ground", x.lineOf(0, 5), 2);
        Check.due("on one on the ground", x.lineOf(1, 5), 2);
        FallingLines edge = Poems.posts(2);
        edge.line(3, 1, 0, 0, 0);
        edge.run(14);
        Check.due("it leans, but the edge is in its way", edge.lineOf(1, 5), 2);
        FallingLines side = Poems.posts(5);
        side.line(3, 1, 5, 0, 0);
        side.run(14);
        Check.due("it leans, and would slide", side.lineOf(1, 5), 1);
    }

    // "All is at rest if each line is gone, or is at rest and its load is not greater than its strength, or waits
    // for a beat that is later than that of now."
    private static void allAtRest() {
        FallingLines x = new FallingLines();
        Check.due("no line", x.count(9), 1);
        x.line(2, 1, 4, 1, 1);
        Check.due("it waits for the next beat", x.count(9), 1);
        x.run(1);
        Check.due("it waits for the beat of now", x.count(9), 0);
        Check.due("it waits on", x.count(2), 1);
        x.run(1);
        Check.due("it falls", x.count(9), 0);
        x.reset(1);
        Check.due("it is gone", x.count(9), 1);
        x.line(2, 1, 4, 1, 1);
        Check.due("it waits for an earlier beat", x.count(9), 0);
        x.run(14);
        Check.due("in the row 14", x.count(9), 0);
        x.run(1);
        Check.due("on the ground", x.count(9), 1);
        FallingLines equal = new FallingLines();
        equal.line(1, 9, 5, 0, 0);
        equal.line(1, 2, 5, 0, 5);
        equal.run(30);
        Check.due("a load as great as the strength", equal.lineOf(0, 7) - equal.lineOf(0, 8), 0);
        Check.due("rests", equal.count(9), 1);
        FallingLines greater = Poems.overloaded();
        Check.due("a load greater by 1", greater.lineOf(0, 7) - greater.lineOf(0, 8), 1);
        Check.due("does not", greater.count(9), 0);
    }

    // "The eye reads the lines on the screen by rows, from the top, then by columns from the left."
    private static void reading() {
        FallingLines x = new FallingLines();
        for (int i = 0; i < 10; i++) {
            x.line(2, 1, 20 - 4 * (i % 5), 0, i < 5 ? 0 : 1);
        }
        x.run(2);
        int[] order = {9, 8, 7, 6, 5, 4, 3, 2, 1, 0};
        for (int place = 0; place < 10; place++) {
            Check.due("read at " + place, x.reads(place), order[place]);
            Check.due("the place of " + order[place], x.lineOf(order[place], 11), place);
        }
        Check.due("not so many", x.reads(10), NONE);
    }

    // "0: strength for each column, 1 to 9, at first 2."
    private static void setting() {
        FallingLines x = new FallingLines();
        Check.due("at first", x.set(1), 2);
        Check.argument("below 1", () -> x.set(0));
        for (int strength = 2; strength <= 9; strength++) {
            Check.due("then", x.set(strength), strength - 1);
        }
        Check.argument("above 9", () -> x.set(10));
        Check.due("unchanged", x.set(9), 9);
    }
}
