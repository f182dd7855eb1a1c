/** For each promise but the 21st (DigestTest): ordinary inputs, the edges that it names, and wrong inputs. */
final class PromiseTest {
    private static final int NONE = FallingLines.NONE;
    private static final int[] WRONG = {Integer.MIN_VALUE, -1, 1000, Integer.MAX_VALUE};

    private PromiseTest() {
    }

    public static void main(String[] args) {
        newObject();
        line();
        runComing();
        runFalling();
        runLeaning();
        runInTheAir();
        runBreaking();
        runLimits();
        reset();
        push();
        set();
        append();
        clearBuffer();
        firstError();
        read();
        readStops();
        undo();
        lineOf();
        lineOfStates();
        at();
        reads();
        count();
        untilRest();
        ifDropped();
        bestColumn();
        ifReset();
        fullness();
        Check.end("PromiseTest");
    }

    // Promise 1
    private static void newObject() {
        FallingLines x = new FallingLines();
        for (int what = 0; what <= 11; what++) {
            Check.due("new: count " + what, x.count(what), what == 7 ? NONE : what == 9 ? 1 : 0);
        }
        for (int row = 0; row < 16; row++) {
            for (int column = 0; column < 24; column++) {
                Check.due("new: at", x.at(row, column), NONE);
            }
        }
        Check.due("new: reads", x.reads(0), NONE);
        Check.due("new: firstError", x.firstError(), 0);
        Check.due("new: clearBuffer", x.clearBuffer(), 0);
        Check.due("new: untilRest", x.untilRest(), 0);
        Check.due("new: setting", x.set(5), 2);
        Check.index("new: lineOf", () -> x.lineOf(0, 0));
        Check.state("new: undo", () -> new FallingLines().undo());
        Check.due("NONE", FallingLines.NONE, -1);
    }

    // Promise 2
    private static void line() {
        FallingLines x = new FallingLines();
        for (int wrong : WRONG) {
            Check.argument("line width", () -> x.line(wrong, 1, 0, 0, 0));
            Check.argument("line weight", () -> x.line(1, wrong, 0, 0, 0));
            Check.argument("line column", () -> x.line(1, 1, wrong, 0, 0));
            Check.argument("line verse", () -> x.line(1, 1, 0, wrong, 0));
            Check.argument("line beat", () -> x.line(1, 1, 0, 0, wrong));
        }
        Check.argument("line width 0", () -> x.line(0, 1, 0, 0, 0));
        Check.argument("line width 13", () -> x.line(13, 1, 0, 0, 0));
        Check.argument("line weight 0", () -> x.line(1, 0, 0, 0, 0));
        Check.argument("line weight 10", () -> x.line(1, 10, 0, 0, 0));
        Check.argument("line column 24", () -> x.line(1, 1, 24, 0, 0));
        Check.argument("line verse 4", () -> x.line(1, 1, 0, 4, 0));
        Check.argument("line beat 100", () -> x.line(1, 1, 0, 0, 100));
        Check.argument("line off the screen", () -> x.line(12, 1, 13, 0, 0));
        Check.argument("line off the screen by one", () -> x.line(2, 1, 23, 0, 0));
        Check.due("line: nothing saved", x.count(11), 0);
        Check.due("line 0", x.line(12, 9, 12, 3, 99), 0);
        Check.due("line 1", x.line(1, 1, 23, 0, 0), 1);
        Check.due("line waits", x.lineOf(0, 5), 0);
        Check.due("line saves", x.count(11), 2);
        x.run(3);
        Check.due("line for an earlier beat", x.line(3, 2, 4, 1, 1), 2);
        x.reset(1);
        for (int i = 3; i < 10; i++) {
            Check.due("line " + i, x.line(1, 1, i, 0, 0), i);
        }
        Check.state("line 10, with a gone one", () -> x.line(1, 1, 0, 0, 0));
        Check.argument("line 10, out of range", () -> x.line(1, 1, 0, 0, 100));
        Check.due("lines", x.count(1), 10);
    }

    // Promise 3
    private static void runComing() {
        FallingLines x = new FallingLines();
        x.line(3, 1, 0, 0, 0);
        x.line(3, 2, 2, 0, 0);
        x.line(3, 2, 4, 0, 0);
        x.line(1, 1, 20, 0, 2);
        x.run(1);
        Check.due("the lighter one waits", x.lineOf(0, 6), NONE);
        Check.due("the heavier one comes", x.lineOf(1, 6), 1);
        Check.due("of the same weight the later one waits", x.lineOf(2, 6), NONE);
        x.run(1);
        Check.due("the lighter one comes then", x.lineOf(0, 6), 1);
        Check.due("the later one comes then", x.lineOf(2, 6), 1);
        Check.due("not before its beat", x.lineOf(3, 5), 0);
        x.run(1);
        Check.due("at its beat", x.lineOf(3, 6), 1);
        Check.due("the beat", x.count(0), 3);
    }

    private static void runFalling() {
        int[] rowsByWeight = {0, 1, 1, 1, 2, 2, 2, 2, 3, 3};
        for (int weight = 1; weight <= 9; weight++) {
            FallingLines x = new FallingLines();
            x.line(2, weight, 5, 0, 0);
            x.run(1);
            Check.due("row after a beat, weight " + weight, x.lineOf(0, 6), rowsByWeight[weight]);
            x.run(4);
            Check.due("row after five beats, weight " + weight, x.lineOf(0, 6), 5 * rowsByWeight[weight]);
            x.run(50);
            Check.due("row on the ground, weight " + weight, x.lineOf(0, 6), 15);
        }
        FallingLines x = new FallingLines();
        x.set(9);
        x.line(2, 1, 5, 0, 0);
        x.line(2, 9, 5, 0, 1);
        x.run(2);
        Check.due("the lower one moves first", x.lineOf(0, 6), 2);
        Check.due("the upper one stays above it", x.lineOf(1, 6), 1);
    }

    private static int columnOfRest(int width, int column) {
        FallingLines x = new FallingLines();
        x.set(9);
        x.line(1, 9, 5, 0, 0);
        x.run(5);
        x.line(width, 1, column, 0, 0);
        x.run(30);
        return x.lineOf(1, 3) * 100 + x.lineOf(1, 6);
    }

    private static void runLeaning() {
        Check.due("its middle above the post", columnOfRest(3, 4), 414);
        Check.due("of two, the right one beside it", columnOfRest(2, 5), 615);
        Check.due("of two, the left one beside it", columnOfRest(2, 4), 315);
        Check.due("to the right", columnOfRest(3, 5), 615);
        Check.due("to the left", columnOfRest(3, 3), 215);
        Check.due("far to the left", columnOfRest(5, 1), 15);
        FallingLines edge = new FallingLines();
        edge.set(9);
        edge.line(1, 9, 2, 0, 0);
        edge.line(1, 9, 21, 0, 0);
        edge.run(5);
        edge.line(3, 1, 0, 0, 0);
        edge.line(3, 1, 21, 0, 0);
        edge.run(30);
        Check.due("no further at the left edge", edge.lineOf(2, 3) * 100 + edge.lineOf(2, 6), 14);
        Check.due("no further at the right edge", edge.lineOf(3, 3) * 100 + edge.lineOf(3, 6), 2114);
        Check.due("at rest there", edge.lineOf(2, 5), 2);
        FallingLines x = new FallingLines();
        x.set(9);
        x.line(1, 9, 5, 0, 0);
        x.line(1, 9, 8, 0, 0);
        x.run(5);
        x.line(1, 9, 8, 0, 0);
        x.run(5);
        x.line(3, 1, 5, 0, 0);
        x.run(30);
        Check.due("a line is in the way", x.lineOf(3, 3) * 100 + x.lineOf(3, 6), 514);
        FallingLines steps = new FallingLines();
        steps.set(9);
        steps.line(1, 9, 5, 0, 0);
        steps.run(5);
        steps.line(2, 8, 5, 0, 0);
        steps.run(4);
        Check.due("before it lies on the post", steps.lineOf(1, 3) * 100 + steps.lineOf(1, 6), 512);
        steps.run(1);
        Check.due("two rows, then a slide, in one beat", steps.lineOf(1, 3) * 100 + steps.lineOf(1, 6), 614);
        FallingLines two = new FallingLines();
        two.set(9);
        two.line(1, 9, 3, 0, 0);
        two.line(1, 9, 9, 0, 0);
        two.run(5);
        two.line(7, 1, 3, 0, 0);
        two.run(30);
        Check.due("across two posts", two.lineOf(2, 3) * 100 + two.lineOf(2, 6), 314);
    }

    /** A quick line overtakes a slow one, leans on it, and slides beneath one that has just come. */
    private static FallingLines inTheAir(int width) {
        FallingLines x = new FallingLines();
        x.set(9);
        x.line(1, 1, 4, 0, 0);
        x.line(2, 4, 4, 0, 1);
        x.line(width, 1, 6, 0, 1);
        x.line(3, 1, 5, 0, 70);
        x.run(2);
        return x;
    }

    private static void runInTheAir() {
        FallingLines x = inTheAir(1);
        Check.due("the quick one slid", x.lineOf(1, 3) * 100 + x.lineOf(1, 6), 501);
        Check.due("the upper one stays in the row 0", x.lineOf(2, 3) * 100 + x.lineOf(2, 6), 600);
        Check.due("at rest as all is now", x.lineOf(2, 5), 2);
        Check.due("beneath it", x.lineOf(2, 9), 2);
        Check.due("nothing above it", x.lineOf(2, 10), 0);
        Check.due("above the quick one", x.lineOf(1, 10), 4);
        Check.due("the load of the quick one", x.lineOf(1, 7), 1);
        Check.due("nothing beneath one that waits", x.lineOf(3, 9), 0);
        Check.due("nor above it", x.lineOf(3, 10), 0);
        Check.due("the topmost row", x.count(7), 0);
        Check.due("on the square", x.at(0, 6), 2);
        Check.due("read first", x.reads(0), 2);
        Check.due("one dropped there waits first, and comes to lie on it", x.ifDropped(1, 9, 6, 0), 13);
        Check.due("push in the row 0", x.push(2, true), 7);
        Check.due("pushed", x.at(0, 7), 2);
        FallingLines y = inTheAir(2);
        Check.due("it slides in the row 0", y.lineOf(2, 3) * 100 + y.lineOf(2, 6), 700);
        Check.due("its square before is free", y.at(0, 6), NONE);
        Check.due("not at rest", y.lineOf(2, 5), 1);
    }

    private static int broken(int weight, int strength, int width) {
        FallingLines x = new FallingLines();
        x.set(strength);
        x.line(width, 9, 5, 0, 0);
        x.run(5);
        x.line(width, weight, 5, 0, 0);
        int broken = x.run(30);
        Check.due("counted", x.count(6), broken);
        Check.due("gone", x.lineOf(0, 5), broken == 1 ? 3 : 2);
        Check.due("the upper one falls on", x.lineOf(1, 6), broken == 1 ? 15 : 14);
        return broken;
    }

    private static void runBreaking() {
        Check.due("as heavy as the strength", broken(2, 2, 1), 0);
        Check.due("heavier than the strength", broken(3, 2, 1), 1);
        Check.due("as heavy as a wider one bears", broken(4, 2, 2), 0);
        Check.due("heavier than a wider one bears", broken(5, 2, 2), 1);
        Check.due("the setting counts", broken(9, 9, 1), 0);
        FallingLines x = new FallingLines();
        x.set(9);
        for (int i = 0; i < 3; i++) {
            x.line(1, 3, 7, 0, i);
        }
        x.run(30);
        Check.due("a stack", x.lineOf(2, 6), 13);
        x.set(1);
        Check.due("not before a beat", x.count(6), 0);
        Check.due("both at once", x.run(1), 2);
        Check.due("only what lies directly above counts", x.lineOf(2, 5), 1);
        FallingLines many = new FallingLines();
        many.set(2);
        many.line(3, 9, 5, 0, 0);
        many.run(5);
        many.line(1, 3, 5, 0, 0);
        many.line(1, 3, 7, 0, 0);
        Check.due("six on a strength of six", many.run(30), 0);
        many.line(1, 1, 6, 0, 0);
        Check.due("seven on a strength of six", many.run(30), 1);
    }

    private static void runLimits() {
        FallingLines x = new FallingLines();
        for (int wrong : WRONG) {
            Check.argument("run " + wrong, () -> x.run(wrong));
        }
        Check.argument("run 0", () -> x.run(0));
        Check.argument("run 51", () -> x.run(51));
        for (int i = 0; i < 19; i++) {
            x.run(50);
        }
        Check.state("run to 1000", () -> x.run(50));
        Check.due("run to 999", x.run(49), 0);
        Check.state("run beyond 999", () -> x.run(1));
        Check.argument("run beyond 999, out of range", () -> x.run(51));
        Check.due("the beat 999", x.count(0), 999);
        x.line(1, 1, 0, 0, 99);
        Check.due("the limit does not matter to what would be", x.untilRest(), 15);
        x.undo();
        x.undo();
        Check.due("undone as one call", x.count(0), 950);
    }

    // Promise 4
    private static void reset() {
        FallingLines x = new FallingLines();
        x.line(2, 1, 0, 1, 0);
        x.line(2, 1, 5, 1, 50);
        x.line(2, 1, 9, 2, 0);
        x.run(2);
        for (int wrong : WRONG) {
            Check.argument("reset " + wrong, () -> x.reset(wrong));
        }
        Check.argument("reset 4", () -> x.reset(4));
        Check.due("reset of a waiting one and one on the screen", x.reset(1), 2);
        Check.due("both gone", x.count(5), 2);
        Check.due("none broke", x.count(6), 0);
        Check.due("its squares are free", x.at(2, 0), NONE);
        Check.due("the other one stays", x.lineOf(2, 6), 2);
        Check.due("reset again", x.reset(1), 0);
        Check.due("reset of none", x.reset(3), 0);
        Check.due("also saved if it changes nothing", x.count(11), 6);
        x.undo();
        x.undo();
        x.undo();
        Check.due("reset undone", x.count(5), 0);
        Check.due("its squares are taken", x.at(2, 0), 0);
    }

    // Promise 5
    private static void push() {
        FallingLines x = new FallingLines();
        x.line(2, 1, 0, 0, 0);
        x.line(2, 1, 3, 0, 0);
        x.line(2, 1, 22, 0, 0);
        x.line(2, 1, 9, 0, 50);
        Check.state("push of a waiting one", () -> x.push(0, true));
        x.run(1);
        for (int wrong : WRONG) {
            Check.index("push " + wrong, () -> x.push(wrong, true));
        }
        Check.index("push 4", () -> x.push(4, false));
        Check.state("push of one that waits on", () -> x.push(3, true));
        Check.state("push off the screen, left", () -> x.push(0, false));
        Check.state("push off the screen, right", () -> x.push(2, true));
        Check.due("push to the right", x.push(0, true), 1);
        Check.state("push against another, right", () -> x.push(0, true));
        Check.state("push against another, left", () -> x.push(1, false));
        Check.due("push to the left", x.push(2, false), 21);
        Check.due("its first column", x.lineOf(2, 3), 21);
        Check.due("the square behind it", x.at(1, 0), NONE);
        Check.due("the square before it", x.at(1, 2), 0);
        x.undo();
        Check.due("push undone", x.lineOf(2, 3), 22);
        x.reset(0);
        Check.state("push of a gone one", () -> x.push(0, true));
    }

    // Promise 6
    private static void set() {
        FallingLines x = new FallingLines();
        for (int wrong : WRONG) {
            Check.argument("set " + wrong, () -> x.set(wrong));
        }
        Check.argument("set 0", () -> x.set(0));
        Check.argument("set 10", () -> x.set(10));
        Check.due("set 1", x.set(1), 2);
        Check.due("set 9", x.set(9), 1);
        x.line(4, 1, 0, 0, 0);
        Check.due("the strength of a line", x.lineOf(0, 8), 36);
        x.undo();
        x.undo();
        Check.due("set undone", x.set(3), 1);
    }

    // Promise 7
    private static void append() {
        FallingLines x = new FallingLines();
        for (int wrong : WRONG) {
            Check.argument("append " + wrong, () -> x.append(wrong));
        }
        Check.argument("append 32", () -> x.append(32));
        Check.argument("append 127", () -> x.append(127));
        Check.due("append 33", x.append(33), 1);
        Check.due("append 126", x.append(126), 2);
        for (int i = 3; i <= 60; i++) {
            Check.due("append", x.append('1'), i);
        }
        Check.state("append to a full buffer", () -> x.append('1'));
        Check.argument("append of a wrong code to a full buffer", () -> x.append(32));
        Check.due("append saves nothing", x.count(11), 0);
    }

    // Promise 8
    private static void clearBuffer() {
        FallingLines x = Poems.typed("1w1@");
        Check.due("clearBuffer", x.clearBuffer(), 4);
        Check.due("clearBuffer again", x.clearBuffer(), 0);
        Check.due("clearBuffer saves nothing", x.count(11), 0);
        Check.due("append then", x.append('1'), 1);
        Poems.type(x, "w1@0");
        Check.due("nothing of the earlier text is left", x.read(), 1);
    }

    // Promise 9
    private static void firstError() {
        String[] right = {"", "1", "12", "9w", "10w9", "11w1@", "1w1@0", "1w1@19", "1w1@23", "1w1@9+", "12w9@23+50",
            "1w1@0+0", "1w1@2+49;", "1w1@2;1", "1w1@2+7;12w3@4;", "12w9@23;12w9@23+1", "1w1@3+5"};
        for (String text : right) {
            Check.due("firstError of " + text, Poems.typed(text).firstError(), text.length());
        }
        String[] wrong = {"0", "w", ";", "@", "+", "~", "13", "20", "123", "1@", "1;", "1w0", "1ww", "1w1w", "1w10",
            "1w1;", "1w1+", "1w1@w", "1w1@24", "1w1@30", "1w1@00", "1w1@01", "1w1@100", "1w1@;", "1w1@+", "1w1@1@",
            "1w1@1w", "1w1@1++", "1w1@1+;", "1w1@1+51", "1w1@1+60", "1w1@1+00", "1w1@1+05", "1w1@1+1+", "1w1@1+100",
            "1w1@1+1w", "1w1@1;;", "1w1@1;0", "1w1@1;w", "1w1@1+2;+", "1W", "1w1@-", "1w1@1,"};
        for (String text : wrong) {
            Check.due("firstError of " + text, Poems.typed(text).firstError(), text.length() - 1);
            Check.due("firstError of more than " + text, Poems.typed(text + "1w1@0").firstError(), text.length() - 1);
        }
        String full = "1w1@1;1w1@1;1w1@1;1w1@1;1w1@1;1w1@1;1w1@1;1w1@1;1w1@1;1w1@12";
        FallingLines x = Poems.typed(full);
        Check.due("firstError of a full buffer", x.firstError(), 60);
        Check.due("firstError does not clear", x.clearBuffer(), 60);
        Check.due("firstError of a full buffer that must go on",
                Poems.typed(full.substring(0, 54) + "1w1@1;").firstError(), 60);
    }

    // Promise 10
    private static void read() {
        String[] wrong = {"", "1", "1w", "1w1", "1w1@", "1w1@1+", "1w1@1;", "1w1@1;2", "13w1@1", "1w1@24"};
        for (String text : wrong) {
            FallingLines x = Poems.typed(text);
            Check.argument("read of " + text, () -> x.read());
            Check.due("the buffer stays", x.clearBuffer(), text.length());
            Check.due("no line of " + text, x.count(1), 0);
            Check.due("nothing saved", x.count(11), 0);
        }
        FallingLines x = new FallingLines();
        x.run(7);
        Poems.type(x, "12w9@12+50;1w1@0");
        Check.due("read", x.read(), 2);
        Check.due("the buffer is empty", x.clearBuffer(), 0);
        int[] first = {12, 9, 0, 12, 57, 0};
        int[] second = {1, 1, 0, 0, 7, 0};
        for (int what = 0; what < 6; what++) {
            Check.due("read line 0, " + what, x.lineOf(0, what), first[what]);
            Check.due("read line 1, " + what, x.lineOf(1, what), second[what]);
        }
        Check.due("read saves once", x.count(11), 2);
        Poems.type(x, "2w");
        Check.due("undo of read", x.undo(), 1);
        Check.due("no lines", x.count(1), 0);
        Check.due("the buffer is not restored", x.clearBuffer(), 2);
    }

    private static void readStops() {
        FallingLines x = Poems.typed("1w1@0;12w1@13;1w1@2");
        Check.due("read up to one off the screen", x.read(), 1);
        Poems.type(x, "12w1@23");
        Check.due("read of none", x.read(), 0);
        Check.due("also saved if none is added", x.count(11), 2);
        Check.due("also cleared if none is added", x.clearBuffer(), 0);
        x.run(50);
        Poems.type(x, "1w1@0+49;1w1@1+50;1w1@2");
        Check.due("read up to a beat above 99", x.read(), 1);
        Check.due("the beat 99", x.lineOf(1, 4), 99);
        x.run(50);
        Poems.type(x, "1w1@0");
        Check.due("read at the beat 100", x.read(), 0);
        FallingLines full = new FallingLines();
        for (int i = 0; i < 8; i++) {
            full.line(1, 1, i, 0, 0);
        }
        Poems.type(full, "1w1@10;1w1@11;1w1@12;1w1@13");
        Check.due("read up to ten lines", full.read(), 2);
        FallingLines ten = Poems.typed("1w1@0;1w1@1;1w1@2;1w1@3;1w1@4;1w1@5;1w1@6;1w1@7;1w1@8;1w1@9");
        Check.due("read of ten lines", ten.read(), 10);
        Check.due("the column of the tenth", ten.lineOf(9, 3), 9);
    }

    // Promise 11
    private static void undo() {
        FallingLines x = new FallingLines();
        Check.state("undo of nothing", () -> x.undo());
        for (int i = 1; i <= 9; i++) {
            x.line(1, 1, i, 0, 0);
            Check.due("saved states", x.count(11), Math.min(i, 6));
        }
        for (int i = 5; i >= 0; i--) {
            Check.due("undo", x.undo(), i);
            Check.due("lines then", x.count(1), i + 3);
        }
        Check.state("undo beyond the oldest", () -> x.undo());
        FallingLines y = new FallingLines();
        y.line(1, 9, 5, 0, 0);
        y.line(1, 9, 5, 0, 1);
        Check.due("a line breaks", y.run(20), 1);
        y.undo();
        Check.due("what broke is restored", y.count(6), 0);
        Check.due("the beat is restored", y.count(0), 0);
        Check.due("the line is restored", y.lineOf(0, 5), 0);
        Check.due("it breaks again", y.run(20), 1);
        Check.due("what broke, once", y.count(6), 1);
    }

    // Promise 12
    private static void lineOf() {
        FallingLines x = new FallingLines();
        x.set(3);
        x.line(5, 9, 4, 1, 0);
        x.line(2, 2, 4, 2, 1);
        x.line(2, 3, 7, 3, 1);
        x.line(2, 1, 7, 0, 20);
        x.run(40);
        long[][] want = {
            {5, 9, 1, 4, 0, 2, 15, 5, 15, 0, 6, 3},
            {2, 2, 2, 4, 1, 2, 14, 0, 6, 1, 0, 1},
            {2, 3, 3, 7, 1, 2, 14, 1, 6, 1, 8, 2},
            {2, 1, 0, 7, 20, 2, 13, 0, 6, 4, 0, 0}};
        for (int number = 0; number < 4; number++) {
            for (int what = 0; what < 12; what++) {
                Check.due("lineOf " + number + " " + what, x.lineOf(number, what), want[number][what]);
            }
        }
        for (int wrong : WRONG) {
            Check.index("lineOf " + wrong, () -> x.lineOf(wrong, 0));
            Check.argument("lineOf 0 " + wrong, () -> x.lineOf(0, wrong));
            Check.index("lineOf both wrong", () -> x.lineOf(wrong, wrong));
        }
        Check.index("lineOf 4", () -> x.lineOf(4, 0));
        Check.argument("lineOf 12", () -> x.lineOf(0, 12));
    }

    private static void lineOfStates() {
        FallingLines x = new FallingLines();
        x.line(2, 1, 0, 1, 0);
        x.line(2, 1, 4, 0, 0);
        x.line(2, 2, 4, 2, 40);
        int[] waits = {2, 2, 2, 4, 40, 0, NONE, 0, 4, 0, 0, NONE};
        x.run(3);
        for (int what = 0; what < 12; what++) {
            Check.due("a waiting one, " + what, x.lineOf(2, what), waits[what]);
        }
        Check.due("falling", x.lineOf(1, 5), 1);
        x.push(0, true);
        x.reset(1);
        int[] gone = {2, 1, 1, 1, 0, 3, NONE, 0, 4, 0, 0, NONE};
        for (int what = 0; what < 12; what++) {
            Check.due("a gone one, " + what, x.lineOf(0, what), gone[what]);
        }
        FallingLines y = Poems.overloaded();
        Check.due("at rest, whatever its load", y.lineOf(0, 5), 2);
        Check.due("its load", y.lineOf(0, 7), 2);
        Check.due("its strength", y.lineOf(0, 8), 1);
        Check.due("leaning, but in the last row", y.lineOf(1, 5), 2);
        FallingLines z = Poems.restless();
        Check.due("on a post, and not at rest", z.lineOf(2, 5), 1);
        Check.due("beneath it", z.lineOf(2, 9) == 1 || z.lineOf(2, 9) == 2 ? 1 : 0, 1);
    }

    // Promise 13
    private static void at() {
        FallingLines x = new FallingLines();
        x.line(3, 9, 21, 0, 0);
        x.line(1, 9, 0, 0, 0);
        x.run(5);
        Check.due("at before it", x.at(15, 20), NONE);
        Check.due("at its first column", x.at(15, 21), 0);
        Check.due("at its last column", x.at(15, 23), 0);
        Check.due("at the left edge", x.at(15, 0), 1);
        Check.due("at beside it", x.at(15, 1), NONE);
        Check.due("at above it", x.at(14, 22), NONE);
        Check.due("at the top", x.at(0, 0), NONE);
        for (int wrong : WRONG) {
            Check.argument("at row " + wrong, () -> x.at(wrong, 0));
            Check.argument("at column " + wrong, () -> x.at(0, wrong));
        }
        Check.argument("at row 16", () -> x.at(16, 0));
        Check.argument("at column 24", () -> x.at(0, 24));
    }

    // Promise 14
    private static void reads() {
        FallingLines x = new FallingLines();
        x.line(2, 1, 20, 0, 0);
        x.line(2, 1, 3, 0, 0);
        x.line(2, 9, 0, 0, 0);
        x.line(2, 1, 10, 0, 1);
        x.line(2, 1, 12, 0, 70);
        x.run(2);
        int[] want = {3, 1, 0, 2, NONE, NONE};
        for (int place = 0; place < want.length; place++) {
            Check.due("reads " + place, x.reads(place), want[place]);
        }
        Check.due("reads far behind", x.reads(Integer.MAX_VALUE), NONE);
        Check.argument("reads -1", () -> x.reads(-1));
        Check.argument("reads the least", () -> x.reads(Integer.MIN_VALUE));
    }

    // Promise 15
    private static void count() {
        FallingLines x = new FallingLines();
        x.line(1, 9, 5, 0, 0);
        x.line(1, 9, 5, 0, 1);
        x.line(6, 9, 10, 0, 0);
        x.line(2, 2, 12, 0, 3);
        x.line(2, 1, 0, 1, 0);
        x.line(1, 1, 22, 0, 60);
        x.run(20);
        x.reset(1);
        x.line(4, 1, 18, 0, 0);
        x.run(4);
        int[] want = {24, 7, 1, 4, 3, 2, 1, 4, 13, 0, 2, 6};
        for (int what = 0; what < 12; what++) {
            Check.due("count " + what, x.count(what), want[what]);
        }
        x.run(20);
        Check.due("all is at rest, with one that waits for later", x.count(9), 1);
        x.set(1);
        Check.due("still, with less strength", x.count(9), 1);
        x.run(15);
        Check.due("not when one is due", x.count(0) == 59 ? x.count(9) : NONE, 1);
        x.run(1);
        Check.due("its beat has come", x.count(9), 0);
        FallingLines y = new FallingLines();
        y.line(1, 9, 5, 0, 0);
        y.line(1, 2, 5, 0, 5);
        y.run(30);
        Check.due("rest before", y.count(9), 1);
        y.set(1);
        Check.due("no rest beneath too great a load", y.count(9), 0);
        Check.due("yet both are at rest", y.count(4), 2);
        for (int wrong : WRONG) {
            Check.argument("count " + wrong, () -> y.count(wrong));
        }
        Check.argument("count 12", () -> y.count(12));
    }

    // Promise 16
    private static void untilRest() {
        FallingLines x = new FallingLines();
        x.line(2, 1, 4, 0, 50);
        Check.due("it waits for later", x.untilRest(), 0);
        x.line(2, 1, 0, 0, 0);
        Check.due("a light one falls", x.untilRest(), 15);
        x.run(15);
        Check.due("it rests", x.untilRest(), 0);
        FallingLines heavy = new FallingLines();
        heavy.line(2, 9, 0, 0, 0);
        Check.due("a heavy one falls", heavy.untilRest(), 5);
        Check.due("nothing is changed", heavy.lineOf(0, 5), 0);
        heavy.run(5);
        heavy.line(2, 9, 0, 0, 0);
        Check.due("it breaks the lower one, and falls on", heavy.untilRest(), 6);
        FallingLines later = new FallingLines();
        later.line(2, 1, 0, 0, 0);
        later.line(2, 1, 5, 0, 7);
        Check.due("one comes before all is at rest", later.untilRest(), 22);
        Check.due("one slides for ever", Poems.restless().untilRest(), NONE);
        Check.due("a line breaks, then the upper one falls", Poems.overloaded().untilRest(), 2);
        FallingLines edge = new FallingLines();
        for (int i = 0; i < 10; i++) {
            edge.line(12, 1, 0, 0, 0);
        }
        Check.due("ten come one after the other", edge.untilRest(), 15);
    }

    // Promise 17
    private static void ifDropped() {
        FallingLines x = new FallingLines();
        for (int wrong : WRONG) {
            Check.argument("ifDropped width", () -> x.ifDropped(wrong, 1, 0, 0));
            Check.argument("ifDropped weight", () -> x.ifDropped(1, wrong, 0, 0));
            Check.argument("ifDropped column", () -> x.ifDropped(1, 1, wrong, 0));
            Check.argument("ifDropped what", () -> x.ifDropped(1, 1, 0, wrong));
        }
        Check.argument("ifDropped width 13", () -> x.ifDropped(13, 1, 0, 0));
        Check.argument("ifDropped weight 10", () -> x.ifDropped(1, 10, 0, 0));
        Check.argument("ifDropped column 24", () -> x.ifDropped(1, 1, 24, 0));
        Check.argument("ifDropped what 3", () -> x.ifDropped(1, 1, 0, 3));
        Check.argument("ifDropped off the screen", () -> x.ifDropped(12, 1, 13, 0));
        Check.due("ifDropped to the ground", x.ifDropped(12, 1, 12, 0), 15);
        x.line(1, 9, 5, 0, 0);
        x.run(5);
        Check.due("ifDropped beside a post, row", x.ifDropped(2, 1, 5, 0), 15);
        Check.due("ifDropped beside a post, column", x.ifDropped(2, 1, 5, 1), 6);
        Check.due("ifDropped on a post, row", x.ifDropped(3, 2, 4, 0), 14);
        Check.due("ifDropped on a post, column", x.ifDropped(3, 2, 4, 1), 4);
        Check.due("ifDropped on a post, breaks", x.ifDropped(3, 2, 4, 2), 0);
        Check.due("ifDropped through a post, row", x.ifDropped(3, 3, 4, 0), 15);
        Check.due("ifDropped through a post, breaks", x.ifDropped(3, 3, 4, 2), 1);
        Check.due("nothing is added", x.count(1), 1);
        Check.due("nothing is saved", x.count(11), 2);
        FallingLines itToo = new FallingLines();
        itToo.line(1, 9, 5, 0, 1);
        itToo.line(1, 9, 5, 0, 20);
        Check.due("it breaks, too, row", itToo.ifDropped(1, 1, 5, 0), NONE);
        Check.due("it breaks, too, column", itToo.ifDropped(1, 1, 5, 1), NONE);
        Check.due("it breaks, too, breaks", itToo.ifDropped(1, 1, 5, 2), 1);
        for (int i = 2; i < 10; i++) {
            itToo.line(1, 1, 23, 1, 90);
        }
        Check.due("an eleventh one", itToo.ifDropped(1, 1, 20, 0), 15);
        FallingLines never = Poems.restless();
        Check.due("no rest, row", never.ifDropped(2, 1, 20, 0), NONE);
        Check.due("no rest, column", never.ifDropped(2, 1, 20, 1), NONE);
        Check.due("no rest, breaks", never.ifDropped(2, 1, 20, 2), 0);
        never.set(1);
        Check.due("it breaks within 200 beats, and all rests", never.ifDropped(4, 9, 3, 2) > 0 ? 1 : 0, 1);
    }

    // Promise 18
    private static void bestColumn() {
        FallingLines x = new FallingLines();
        for (int wrong : WRONG) {
            Check.argument("bestColumn width", () -> x.bestColumn(wrong, 1));
            Check.argument("bestColumn weight", () -> x.bestColumn(1, wrong));
        }
        Check.argument("bestColumn width 0", () -> x.bestColumn(0, 1));
        Check.argument("bestColumn width 13", () -> x.bestColumn(13, 1));
        Check.argument("bestColumn weight 0", () -> x.bestColumn(1, 0));
        Check.argument("bestColumn weight 10", () -> x.bestColumn(1, 10));
        Check.due("the lowest column", x.bestColumn(12, 9), 0);
        x.line(12, 9, 0, 0, 0);
        x.run(5);
        Check.due("the lowest row, by slides", x.bestColumn(12, 9), 6);
        Check.due("the lowest row, a light one", x.bestColumn(1, 1), 12);
        Check.due("nothing is saved", x.count(11), 2);
        FallingLines post = new FallingLines();
        post.line(1, 9, 0, 0, 0);
        post.run(5);
        Check.due("rather none breaks", post.bestColumn(1, 9), 1);
        Check.due("a slide is as good", post.bestColumn(2, 9), 0);
        FallingLines full = new FallingLines();
        full.set(9);
        full.line(12, 9, 0, 0, 0);
        full.line(11, 9, 12, 0, 0);
        full.run(5);
        Check.due("into a gap", full.bestColumn(1, 1), 23);
        Check.due("on top", full.bestColumn(2, 1), 0);
        FallingLines edge = new FallingLines();
        edge.line(12, 9, 0, 0, 0);
        edge.line(1, 9, 12, 0, 0);
        edge.run(5);
        Check.due("the lowest row, by more slides", edge.bestColumn(11, 1), 8);
        Check.due("no rest", Poems.restless().bestColumn(12, 1), NONE);
    }

    // Promise 19
    private static void ifReset() {
        FallingLines x = new FallingLines();
        x.set(9);
        x.line(4, 9, 0, 1, 0);
        x.run(5);
        x.line(4, 9, 0, 2, 0);
        x.run(5);
        x.line(4, 9, 0, 2, 0);
        x.line(4, 9, 12, 3, 0);
        x.run(5);
        x.line(4, 9, 18, 3, 90);
        for (int wrong : WRONG) {
            Check.argument("ifReset " + wrong, () -> x.ifReset(wrong));
        }
        Check.argument("ifReset 4", () -> x.ifReset(4));
        Check.due("it holds up two", x.ifReset(1), 2);
        Check.due("its own do not count", x.ifReset(2), 0);
        Check.due("one that waits does not count", x.ifReset(0), 0);
        Check.due("nothing is changed", x.count(5), 0);
        x.set(1);
        Check.due("those that would break count, too", x.ifReset(3), 3);
        FallingLines never = Poems.restless();
        Check.due("no rest without another", never.ifReset(0), NONE);
        Check.due("rest without itself", never.ifReset(3), 0);
        Check.due("rest without a post", never.ifReset(1), 1);
    }

    // Promise 20
    private static void fullness() {
        FallingLines x = new FallingLines();
        Check.due("fullness of nothing", Double.doubleToLongBits(x.fullness()), Double.doubleToLongBits(0.0));
        x.line(12, 1, 0, 0, 0);
        x.line(1, 1, 20, 1, 0);
        Check.due("fullness with waiting ones", Double.doubleToLongBits(x.fullness()), 0L);
        x.run(1);
        Check.due("fullness", Double.doubleToLongBits(x.fullness()), Double.doubleToLongBits(13.0 / 384.0));
        x.reset(1);
        Check.due("fullness with a gone one", Double.doubleToLongBits(x.fullness()), Double.doubleToLongBits(0.03125));
    }
}
