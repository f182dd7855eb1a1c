/** Poems that several tests begin with. */
final class Poems {
    private Poems() {
    }

    static FallingLines typed(String text) {
        FallingLines x = new FallingLines();
        type(x, text);
        return x;
    }

    static void type(FallingLines x, String text) {
        for (int i = 0; i < text.length(); i++) {
            x.append(text.charAt(i));
        }
    }

    /** Narrow lines on the ground, each strong enough for whatever comes to lie on it; they take five beats. */
    static FallingLines posts(int... columns) {
        FallingLines x = new FallingLines();
        x.set(9);
        for (int column : columns) {
            x.line(1, 9, column, 1, 0);
        }
        x.run(5);
        return x;
    }

    /** Two posts on the ground, at the columns 2 and 6, and a line that slides between them for ever. */
    static FallingLines restless() {
        FallingLines x = new FallingLines();
        x.set(9);
        x.line(1, 9, 2, 1, 0);
        x.line(1, 9, 6, 2, 0);
        x.run(5);
        x.line(4, 1, 3, 3, 0);
        x.run(20);
        return x;
    }

    /** A line that rests on another one, whose strength then becomes less than its load. */
    static FallingLines overloaded() {
        FallingLines x = new FallingLines();
        x.line(1, 9, 5, 0, 0);
        x.line(1, 2, 5, 0, 5);
        x.run(30);
        x.set(1);
        return x;
    }

    /** Where a line is: its first column, and two digits more for its row. */
    static int place(FallingLines x, int number) {
        return x.lineOf(number, 3) * 100 + x.lineOf(number, 6);
    }
}
