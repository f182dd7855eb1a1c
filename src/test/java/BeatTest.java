/** The head 'A beat': a test for each sentence, which stands above it. */
final class BeatTest {
    private static final int NONE = FallingLines.NONE;

    private BeatTest() {
    }

    public static void main(String[] args) {
        due();
        heavierFirst();
        squaresFree();
        lowerRowsFirst();
        heavierMovesFirst();
        oneAfterTheOther();
        steps();
        fallsThroughGaps();
        onTheGround();
        leansOnOne();
        leansOnTwo();
        slidesInItsRow();
        slidesAgainstEdges();
        slidesAgainstLines();
        load();
        breaksInTheAir();
        breaksAtOnce();
        breaksInItsBeat();
        Check.end("BeatTest");
    }

    // "Lines that wait, and whose beat is that of now or earlier, are looked at"
    private static void due() {
        FallingLines x = new FallingLines();
        x.run(5);
        x.line(1, 1, 0, 0, 0);
        x.line(1, 1, 2, 0, 4);
        x.line(1, 1, 4, 0, 5);
        x.line(1, 1, 6, 0, 6);
        x.run(1);
        int[] rows = {1, 1, 1, NONE};
        for (int i = 0; i < rows.length; i++) {
            Check.due("at the beat 5, line " + i, x.lineOf(i, 6), rows[i]);
        }
        x.run(1);
        Check.due("at the beat 6", x.lineOf(3, 6), 1);
        FallingLines late = new FallingLines();
        late.line(1, 1, 0, 0, 99);
        late.run(50);
        late.run(49);
        Check.due("the beat 99 has not gone by", late.lineOf(0, 5), 0);
        late.run(1);
        Check.due("the beat 99 has gone by", late.lineOf(0, 6), 1);
    }

    // "by weights, the heavier first, then by numbers"
    private static void heavierFirst() {
        FallingLines x = new FallingLines();
        x.line(2, 1, 5, 0, 0);
        x.line(2, 2, 5, 0, 0);
        x.line(2, 3, 5, 0, 0);
        x.line(2, 2, 5, 0, 0);
        int[] order = {2, 1, 3, 0};
        for (int i = 0; i < order.length; i++) {
            x.run(1);
            Check.due("comes next", x.lineOf(order[i], 6), 1);
            Check.due("the others wait", x.count(2), 3 - i);
        }
        FallingLines last = new FallingLines();
        for (int i = 0; i < 10; i++) {
            last.line(12, i == 9 ? 9 : 8, 0, 0, 0);
        }
        last.run(1);
        Check.due("the heaviest of ten", last.lineOf(9, 6), 3);
        last.run(1);
        Check.due("the first one of nine", last.lineOf(0, 6), 3);
    }

    private static int rowBeside(int width, int column) {
        FallingLines x = new FallingLines();
        x.line(4, 2, 8, 0, 0);
        x.line(width, 1, column, 0, 0);
        x.run(1);
        return x.lineOf(1, 6);
    }

    // "such a line comes to the row 0, if all its squares there are free; otherwise it waits on"
    private static void squaresFree() {
        Check.due("beside it, left", rowBeside(3, 5), 1);
        Check.due("its last square is not free", rowBeside(3, 6), NONE);
        Check.due("within it", rowBeside(2, 9), NONE);
        Check.due("around it", rowBeside(6, 7), NONE);
        Check.due("its first square is not free", rowBeside(3, 11), NONE);
        Check.due("beside it, right", rowBeside(3, 12), 1);
        FallingLines x = new FallingLines();
        x.line(4, 2, 8, 0, 0);
        x.line(4, 1, 8, 0, 0);
        x.line(4, 1, 12, 0, 0);
        x.run(1);
        Check.due("one that waits on is in nobody's way", x.lineOf(2, 6), 1);
        x.run(1);
        Check.due("it comes when its squares are free", x.lineOf(1, 6), 1);
    }

    // "Lines on the screen (those that just came, too) move one after the other: by rows, the lower ones first"
    private static void lowerRowsFirst() {
        for (int lower = 0; lower < 2; lower++) {
            FallingLines x = new FallingLines();
            x.line(2, 1, 5, 0, lower == 0 ? 0 : 1);
            x.line(2, 1, 5, 0, lower == 0 ? 1 : 0);
            x.run(2);
            Check.due("the lower one", x.lineOf(lower, 6), 2);
            Check.due("the upper one just came, and moves, too", x.lineOf(1 - lower, 6), 1);
            x.run(3);
            Check.due("the lower one falls first", x.lineOf(lower, 6), 5);
            Check.due("then the upper one", x.lineOf(1 - lower, 6), 4);
        }
        FallingLines heavy = new FallingLines();
        heavy.set(9);
        heavy.line(2, 9, 5, 0, 1);
        heavy.line(2, 1, 5, 0, 0);
        heavy.run(2);
        Check.due("though the upper one is heavier", heavy.lineOf(1, 6), 2);
        Check.due("it falls as far as there is room", heavy.lineOf(0, 6), 1);
    }

    /** Two lines lean towards the same square of the row 14; tells the first columns of the left and the right one. */
    private static int duel(int left, int right, boolean leftCameFirst) {
        FallingLines x = Poems.posts(5, 9);
        int l = leftCameFirst ? x.line(2, left, 5, 0, 0) : 3;
        x.line(2, right, 8, 0, 0);
        if (!leftCameFirst) {
            x.line(2, left, 5, 0, 0);
        }
        x.run(15);
        return x.lineOf(l, 3) * 100 + x.lineOf(5 - l, 3);
    }

    // "then by weights, the heavier first, then by numbers"
    private static void heavierMovesFirst() {
        Check.due("the left one is heavier", duel(2, 1, true), 608);
        Check.due("the left one is heavier, and came later", duel(2, 1, false), 608);
        Check.due("the right one is heavier", duel(1, 2, true), 507);
        Check.due("the right one is heavier, and came later", duel(1, 2, false), 507);
        Check.due("the left one came first", duel(1, 1, true), 608);
        Check.due("the right one came first", duel(1, 1, false), 507);
    }

    // "one after the other .. the order is as it is at the beginning of this step"
    private static void oneAfterTheOther() {
        FallingLines x = Poems.posts(5, 9);
        x.line(2, 1, 8, 0, 0);
        x.line(2, 4, 5, 0, 12);
        x.run(14);
        Check.due("both are in the row 14", Poems.place(x, 2) * 10000 + Poems.place(x, 3), 8140514);
        x.run(1);
        Check.due("the heavier one takes both its steps", Poems.place(x, 3), 615);
        Check.due("then the lighter one slides to where it was", Poems.place(x, 2), 714);
    }

    // "Each has 1 step and, besides, as many as its weight divided by 4." "divisions are rounded down"
    private static void steps() {
        int[] steps = {0, 1, 1, 1, 2, 2, 2, 2, 3, 3};
        for (int weight = 1; weight <= 9; weight++) {
            FallingLines x = new FallingLines();
            x.line(1, weight, 0, 0, 0);
            for (int beat = 1; beat <= 6; beat++) {
                x.run(1);
                Check.due("weight " + weight, x.lineOf(0, 6), Math.min(15, beat * steps[weight]));
            }
        }
        FallingLines slide = Poems.posts(5);
        slide.line(3, 9, 3, 0, 0);
        slide.run(4);
        Check.due("three rows a beat", Poems.place(slide, 1), 312);
        slide.run(1);
        Check.due("two rows and a slide", Poems.place(slide, 1), 214);
        slide.run(1);
        Check.due("a row, and no more", Poems.place(slide, 1), 215);
    }

    // "if it is not in the row 15, and all squares beneath it are free, it falls by a row"
    private static void fallsThroughGaps() {
        FallingLines x = Poems.posts(5, 9);
        x.line(3, 1, 6, 0, 0);
        x.run(15);
        Check.due("as wide as the gap", Poems.place(x, 2), 615);
        FallingLines first = Poems.posts(6, 9);
        first.line(3, 1, 6, 0, 0);
        first.run(14);
        Check.due("not free beneath its first square", Poems.place(first, 2), 614);
        first.run(1);
        Check.due("it leans to the right", Poems.place(first, 2), 714);
        FallingLines last = Poems.posts(5, 8);
        last.line(3, 1, 6, 0, 0);
        last.run(14);
        Check.due("not free beneath its last square", Poems.place(last, 2), 614);
        last.run(1);
        Check.due("it leans to the left", Poems.place(last, 2), 514);
    }

    // "Otherwise, if it is in the row 15, it does nothing."
    private static void onTheGround() {
        for (int column = 0; column <= 20; column += 10) {
            FallingLines x = new FallingLines();
            x.line(4, 9, column, 0, 0);
            x.run(5);
            Check.due("on the ground", Poems.place(x, 0), column * 100 + 15);
            Check.due("it does nothing", x.lineOf(0, 5), 2);
            x.run(50);
            Check.due("nor later", Poems.place(x, 0), column * 100 + 15);
        }
    }

    /** To which side a line leans: its columns with something beneath are the least and the greatest told. */
    private static int side(int width, int least, int greatest) {
        int middle = width - 1;
        return middle < 2 * least ? -1 : middle > 2 * greatest ? 1 : 0;
    }

    // "let l and r be the least and the greatest of its columns with a square beneath that is not free, and m the
    // sum of its first and its last column: if m is less than 2 l, it leans to the left, if m is greater than 2 r,
    // to the right: it slides by a column to this side"
    private static void leansOnOne() {
        for (int width = 1; width <= 12; width++) {
            for (int under = 0; under < width; under++) {
                // Where the widest one has a free column on the side to which it leans.
                int post = 2 * under < width ? 11 : 12;
                int first = post - under;
                FallingLines x = Poems.posts(post);
                x.line(width, 1, first, 0, 0);
                x.run(14);
                int side = side(width, under, under);
                Check.due("it lies there", Poems.place(x, 1), first * 100 + 14);
                Check.due("at rest in its middle alone", x.lineOf(1, 5), side == 0 ? 2 : 1);
                x.run(1);
                Check.due("width " + width + ", on " + under, Poems.place(x, 1), (first + side) * 100 + 14);
            }
        }
    }

    // the same, with l and r apart
    private static void leansOnTwo() {
        for (int width = 2; width <= 12; width++) {
            for (int least = 0; least < width; least++) {
                for (int greatest = least + 1; greatest < width; greatest++) {
                    FallingLines x = Poems.posts(6 + least, 6 + greatest);
                    x.line(width, 1, 6, 0, 0);
                    x.run(15);
                    int side = side(width, least, greatest);
                    Check.due("width " + width + ", on " + least + " and " + greatest, Poems.place(x, 2),
                            (6 + side) * 100 + 14);
                }
            }
        }
    }

    // "if the square there, beside it in its row, is .. free"
    private static void slidesInItsRow() {
        FallingLines x = Poems.posts(5, 7);
        x.line(2, 1, 5, 0, 0);
        x.run(15);
        Check.due("what is beneath the square is not in the way", Poems.place(x, 2), 614);
        x.run(1);
        Check.due("and it slides back", Poems.place(x, 2), 514);
    }

    // "if the square there .. is on the screen ..; otherwise it does nothing"
    private static void slidesAgainstEdges() {
        FallingLines left = Poems.posts(3);
        left.line(5, 1, 0, 0, 0);
        left.run(50);
        Check.due("no further to the left", Poems.place(left, 1), 14);
        Check.due("it does nothing there", left.lineOf(1, 5), 2);
        FallingLines right = Poems.posts(20);
        right.line(5, 1, 19, 0, 0);
        right.run(50);
        Check.due("no further to the right", Poems.place(right, 1), 1914);
        Check.due("it does nothing there, too", right.lineOf(1, 5), 2);
        FallingLines before = Poems.posts(4);
        before.line(5, 1, 1, 0, 0);
        before.run(50);
        Check.due("up to the column 0", Poems.place(before, 1), 14);
        FallingLines behind = Poems.posts(19);
        behind.line(5, 1, 18, 0, 0);
        behind.run(50);
        Check.due("up to the column 23", Poems.place(behind, 1), 1914);
    }

    // "if the square there .. is .. free; otherwise it does nothing"
    private static void slidesAgainstLines() {
        FallingLines x = Poems.posts(4, 6, 9);
        x.line(2, 1, 3, 0, 0);
        x.line(1, 1, 2, 0, 0);
        x.line(1, 9, 9, 0, 0);
        x.line(3, 1, 6, 0, 0);
        x.run(14);
        Check.due("one in the air is in its way", x.lineOf(3, 5), 2);
        x.run(1);
        Check.due("it did nothing, as it moves first", Poems.place(x, 3), 314);
        Check.due("then the one in the air fell", Poems.place(x, 4), 215);
        Check.due("one at rest is in its way", Poems.place(x, 6), 614);
        Check.due("it does nothing", x.lineOf(6, 5), 2);
        x.run(1);
        Check.due("the way is free", Poems.place(x, 3), 214);
        x.run(50);
        Check.due("the other one stays", Poems.place(x, 6), 614);
    }

    // "The load of a line is the sum of the weights of all lines that have a square directly above one of its squares."
    private static void load() {
        FallingLines x = new FallingLines();
        x.set(9);
        x.line(6, 9, 8, 0, 0);
        x.line(6, 9, 14, 0, 0);
        x.run(5);
        Check.due("nothing above", x.lineOf(0, 7), 0);
        x.line(3, 5, 9, 0, 0);
        x.run(10);
        Check.due("one above three squares counts once", x.lineOf(0, 7), 5);
        Check.due("one beside does not count", x.lineOf(1, 7), 0);
        x.line(3, 4, 12, 0, 0);
        x.line(1, 1, 8, 0, 0);
        x.run(20);
        Check.due("three above", x.lineOf(0, 7), 10);
        Check.due("one above two lines counts for both", x.lineOf(1, 7), 4);
        x.line(1, 8, 10, 0, 0);
        x.run(20);
        Check.due("one two rows above does not count", x.lineOf(0, 7), 10);
        Check.due("but for the one beneath it", x.lineOf(2, 7), 8);
        Check.due("none broke", x.count(6), 0);
    }

    // "All lines whose load is greater than their strength break .. they are gone", also those that fall
    private static void breaksInTheAir() {
        FallingLines x = new FallingLines();
        x.line(1, 1, 5, 0, 0);
        x.line(1, 9, 5, 0, 1);
        Check.due("not alone", x.run(1), 0);
        Check.due("a heavier one overtakes it", x.run(1), 1);
        Check.due("it is gone", x.lineOf(0, 5), 3);
        Check.due("its square is free", x.at(2, 5), NONE);
        Check.due("the other one is directly above", x.lineOf(1, 6), 1);
        x.run(1);
        Check.due("it falls on", x.lineOf(1, 6), 4);
        FallingLines bears = new FallingLines();
        bears.line(1, 1, 5, 0, 0);
        bears.line(1, 2, 5, 0, 1);
        Check.due("a load as great as the strength", bears.run(50), 0);
    }

    // "All lines whose load is greater than their strength break, at once"
    private static void breaksAtOnce() {
        FallingLines x = new FallingLines();
        x.set(9);
        x.line(1, 3, 7, 0, 0);
        x.line(1, 3, 7, 0, 1);
        x.line(1, 2, 7, 0, 2);
        x.line(1, 1, 7, 0, 3);
        x.run(30);
        Check.due("a stack of four", x.lineOf(3, 6), 12);
        x.set(1);
        Check.due("the lower two, the upper of them still counts", x.run(1), 2);
        Check.due("the lowest", x.lineOf(0, 5), 3);
        Check.due("the next", x.lineOf(1, 5), 3);
        Check.due("a load of 1 on a strength of 1", x.lineOf(2, 5), 1);
        Check.due("in its row until the next beat", x.lineOf(2, 6), 13);
        Check.due("those above fall then", x.run(50), 0);
        Check.due("to the ground", x.lineOf(2, 6), 15);
        Check.due("one on the other", x.lineOf(3, 6), 14);
    }

    // The load is looked at after the lines have moved, in the same beat.
    private static void breaksInItsBeat() {
        FallingLines x = new FallingLines();
        x.line(2, 9, 5, 0, 0);
        x.run(5);
        x.line(2, 9, 5, 0, 0);
        Check.due("in the row 12", x.run(4), 0);
        Check.due("in the row 14, and the lower one breaks", x.run(1), 1);
        Check.due("the upper one", x.lineOf(1, 6), 14);
        FallingLines away = new FallingLines();
        away.line(1, 9, 5, 0, 0);
        away.run(5);
        away.line(2, 9, 5, 0, 0);
        Check.due("it falls two rows and slides off", away.run(5), 0);
        Check.due("it slid", Poems.place(away, 1), 614);
        Check.due("before the load counts", away.run(50), 0);
    }
}
