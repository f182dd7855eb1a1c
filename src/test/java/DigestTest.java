/** Promise 21: the hash is told a second time, value by value, from what the other calls answer. */
final class DigestTest {
    /** Makes the same poem each time, as one object is used for so many calls alone. */
    interface Made {
        FallingLines poem();
    }

    private DigestTest() {
    }

    public static void main(String[] args) {
        newObject();
        eachBeat();
        noLineToTen();
        manyStates();
        neverAtRest();
        dropped();
        best();
        buffer();
        changesNothing();
        Check.end("DigestTest");
    }

    // "The hash starts at 2909. For each value v of the following list, in order, the hash becomes 31 * hash + v"
    private static long hash(Made made, int strength, String buffer) {
        long h = 2909;
        FallingLines x = made.poem();
        for (int what = 0; what <= 11; what++) {
            h = 31 * h + x.count(what);
        }
        h = 31 * h + strength;
        int lines = x.count(1);
        for (int number = 0; number < lines; number++) {
            for (int what = 0; what <= 11; what++) {
                h = 31 * h + x.lineOf(number, what);
            }
        }
        FallingLines squares = made.poem();
        for (int square = 0; square < 384; square++) {
            h = 31 * h + squares.at(square / 24, square % 24);
        }
        for (int place = 0; place <= 9; place++) {
            h = 31 * h + x.reads(place);
        }
        h = 31 * h + x.untilRest();
        for (int what = 0; what <= 2; what++) {
            h = 31 * h + x.ifDropped(5, 3, 4, what);
        }
        h = 31 * h + x.bestColumn(6, 2);
        for (int verse = 0; verse <= 3; verse++) {
            h = 31 * h + x.ifReset(verse);
        }
        h = 31 * h + Double.doubleToLongBits(x.fullness());
        h = 31 * h + buffer.length();
        for (int i = 0; i < buffer.length(); i++) {
            h = 31 * h + buffer.charAt(i);
        }
        return h;
    }

    private static void due(String what, Made made, int strength, String buffer) {
        Check.due(what, made.poem().digest(), hash(made, strength, buffer));
    }

    private static void newObject() {
        due("a new object", () -> new FallingLines(), 2, "");
        long h = 2909;
        int[] counts = {0, 0, 0, 0, 0, 0, 0, -1, 0, 1, 0, 0, 2};
        for (int count : counts) {
            h = 31 * h + count;
        }
        for (int i = 0; i < 384 + 10; i++) {
            h = 31 * h - 1;
        }
        int[] wouldBe = {0, 15, 4, 0, 0, 0, 0, 0, 0, 0, 0};
        for (int value : wouldBe) {
            h = 31 * h + value;
        }
        Check.due("a new object, by its numbers", new FallingLines().digest(), h);
    }

    private static FallingLines falling(int beats) {
        FallingLines x = Poems.typed("1w~");
        x.set(4);
        x.line(12, 9, 3, 1, 0);
        x.line(2, 3, 3, 2, 1);
        x.line(7, 4, 9, 0, 2);
        x.line(1, 1, 23, 3, 90);
        if (beats > 0) {
            x.run(beats);
        }
        return x;
    }

    private static void eachBeat() {
        for (int i = 0; i <= 20; i++) {
            int beats = i;
            due(beats + " beats", () -> falling(beats), 4, "1w~");
        }
    }

    private static FallingLines lines(int many) {
        FallingLines x = new FallingLines();
        for (int i = 0; i < many; i++) {
            x.line(1 + i, 1 + i % 3, 12 - i, i % 4, i);
        }
        x.run(10);
        return x;
    }

    private static void noLineToTen() {
        for (int i = 0; i <= 10; i++) {
            int many = i;
            due(many + " lines", () -> lines(many), 2, "");
        }
    }

    /** Lines that wait, fall, rest, broke and were taken away. */
    private static FallingLines states() {
        FallingLines x = lines(8);
        x.line(1, 9, 20, 1, 0);
        x.line(1, 9, 20, 2, 99);
        x.reset(3);
        x.run(9);
        x.set(1);
        x.run(1);
        return x;
    }

    private static void manyStates() {
        due("many states", () -> states(), 1, "");
        Check.due("six saved states", states().count(11), 6);
    }

    private static void neverAtRest() {
        due("never at rest", () -> Poems.restless(), 9, "");
        Check.due("until rest", Poems.restless().untilRest(), FallingLines.NONE);
    }

    // "ifDropped of a line with the width 5 and the weight 3 at the column 4": a heavier one would break the post
    private static void dropped() {
        for (int i = 1; i <= 4; i++) {
            int strength = i;
            Made post = () -> {
                FallingLines x = Poems.posts(6);
                x.set(strength);
                return x;
            };
            due("a post of the strength " + i, post, i, "");
            int row = post.poem().ifDropped(5, 3, 4, 0);
            Check.due("the row, strength " + i, row, i < 3 ? 15 : 14);
        }
    }

    /** The ground is covered, by narrow ones of a width in the columns 12 to 17. */
    private static FallingLines covered(int width) {
        FallingLines x = new FallingLines();
        x.set(1);
        x.line(12, 9, 0, 0, 0);
        x.line(6, 9, 18, 0, 0);
        for (int column = 12; column < 18; column += width) {
            x.line(width, 9, column, 0, 0);
        }
        x.run(5);
        return x;
    }

    // "bestColumn of the width 6 and the weight 2": breaks narrow ones of a column, but not of two
    private static void best() {
        due("narrow ones of a column", () -> covered(1), 1, "");
        due("narrow ones of two columns", () -> covered(2), 1, "");
        Check.due("through those of a column", covered(1).ifDropped(6, 2, 12, 0), 15);
        Check.due("not through those of two", covered(2).ifDropped(6, 2, 12, 0), 14);
    }

    // "the length of the buffer and each of its character codes"
    private static void buffer() {
        String[] texts = {"!", "~", "1w1@0", "~!~!1"};
        for (String text : texts) {
            due(text, () -> Poems.typed(text), 2, text);
        }
        StringBuilder full = new StringBuilder();
        for (char c = '!'; full.length() < 60; c++) {
            full.append(c);
        }
        String text = full.toString();
        due("a full buffer", () -> Poems.typed(text), 2, text);
        due("a cleared one", () -> {
            FallingLines x = Poems.typed(text);
            x.clearBuffer();
            return x;
        }, 2, "");
    }

    private static void changesNothing() {
        FallingLines x = falling(7);
        long first = x.digest();
        Check.due("twice the same", x.digest(), first);
        Check.due("nothing is saved", x.count(11), 6);
        FallingLines y = falling(7);
        y.run(1);
        y.undo();
        Check.due("an undone call leaves a state less, as the oldest was dropped", y.count(11), 5);
    }
}
