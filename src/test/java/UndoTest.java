/** The heads 'Undo' and 'Exceptions': a test for each sentence, which stands above it. */
final class UndoTest {
    private UndoTest() {
    }

    public static void main(String[] args) {
        eachUndoable();
        othersSaveNothing();
        exceptionsSaveNothing();
        alsoWithoutChange();
        allIsRestored();
        countedIsRestored();
        notTheBuffer();
        notTheSavedStates();
        atMostSix();
        oldestFirst();
        noneLeft();
        statesStayApart();
        changesNothing();
        namedFirst();
        Check.end("UndoTest");
    }

    /** Lines that wait, that are on the screen, that are gone, and one that broke. */
    private static FallingLines busy() {
        FallingLines x = new FallingLines();
        x.line(1, 9, 5, 0, 0);
        x.line(1, 9, 5, 1, 5);
        x.line(3, 1, 10, 2, 0);
        x.line(2, 2, 20, 3, 90);
        x.line(2, 2, 1, 2, 20);
        x.run(20);
        return x;
    }

    private static void change(FallingLines x, int which) {
        switch (which) {
            case 0: x.line(3, 3, 3, 3, 3); break;
            case 1: x.run(2); break;
            case 2: x.reset(2); break;
            case 3: x.push(1, true); break;
            case 4: x.set(7); break;
            default: x.read();
        }
    }

    // "Each method that is marked "undoable" .. saves the state from before it"
    private static void eachUndoable() {
        for (int which = 0; which <= 5; which++) {
            FallingLines x = busy();
            while (x.count(11) > 3) {
                x.undo();
            }
            x.run(20);
            int saved = x.count(11);
            long before = x.digest();
            Poems.type(x, "4w4@4;5w5@5");
            change(x, which);
            Check.due("saved by change " + which, x.count(11), saved + 1);
            x.clearBuffer();
            Check.due("it changed", x.digest() == before ? 1 : 0, 0);
            Check.due("undone", x.undo(), saved);
            Check.due("all is as it was", x.digest(), before);
        }
    }

    // No other method is marked "undoable".
    private static void othersSaveNothing() {
        FallingLines x = busy();
        x.undo();
        x.undo();
        int saved = x.count(11);
        x.append('1');
        x.firstError();
        x.clearBuffer();
        x.lineOf(0, 5);
        x.at(0, 0);
        x.reads(0);
        x.count(0);
        x.untilRest();
        x.ifDropped(1, 1, 0, 0);
        x.bestColumn(1, 1);
        x.ifReset(0);
        x.fullness();
        x.digest();
        Check.due("nothing is saved", x.count(11), saved);
    }

    // "and does not throw an exception"
    private static void exceptionsSaveNothing() {
        FallingLines x = Poems.typed("1w");
        x.line(1, 1, 0, 0, 50);
        Check.argument("line", () -> x.line(13, 1, 0, 0, 0));
        Check.argument("run", () -> x.run(51));
        Check.argument("reset", () -> x.reset(4));
        Check.state("push", () -> x.push(0, true));
        Check.argument("set", () -> x.set(0));
        Check.argument("read", () -> x.read());
        Check.due("nothing is saved", x.count(11), 1);
    }

    // "(also if it changes nothing)"
    private static void alsoWithoutChange() {
        FallingLines x = new FallingLines();
        x.reset(0);
        Check.due("a verse without lines", x.count(11), 1);
        x.set(2);
        Check.due("the setting that it was", x.count(11), 2);
        Poems.type(x, "12w1@13");
        x.read();
        Check.due("no line is added", x.count(11), 3);
        for (int left = 2; left >= 0; left--) {
            Check.due("each is undone by itself", x.undo(), left);
        }
    }

    // "all": the lines with their places, the beat, the setting
    private static void allIsRestored() {
        FallingLines x = busy();
        long before = x.digest();
        int[][] lines = new int[5][12];
        for (int number = 0; number < 5; number++) {
            for (int what = 0; what < 12; what++) {
                lines[number][what] = x.lineOf(number, what);
            }
        }
        x.set(1);
        x.run(7);
        x.reset(1);
        x.line(2, 2, 2, 2, 2);
        for (int i = 0; i < 4; i++) {
            x.undo();
        }
        for (int number = 0; number < 5; number++) {
            for (int what = 0; what < 12; what++) {
                Check.due("line " + number + ", " + what, x.lineOf(number, what), lines[number][what]);
            }
        }
        Check.due("five lines", x.count(1), 5);
        Check.due("the beat", x.count(0), 20);
        Check.due("two of six states were dropped", x.count(11), 2);
        Check.due("so the whole is another one", x.digest() == before ? 1 : 0, 0);
        Check.due("the setting", x.set(3), 2);
    }

    // "also what is counted so far"
    private static void countedIsRestored() {
        FallingLines x = new FallingLines();
        x.line(1, 9, 5, 0, 0);
        x.line(1, 9, 5, 0, 5);
        x.run(20);
        Check.due("one broke", x.count(6), 1);
        x.undo();
        Check.due("none did", x.count(6), 0);
        Check.due("none is gone", x.count(5), 0);
        Check.due("it breaks again", x.run(20), 1);
        x.line(1, 9, 5, 0, 25);
        Check.due("and another one", x.run(20), 1);
        Check.due("two", x.count(6), 2);
        x.undo();
        Check.due("back to one", x.count(6), 1);
    }

    // "but the buffer"
    private static void notTheBuffer() {
        FallingLines x = Poems.typed("1w1");
        x.set(3);
        Poems.type(x, "@0");
        x.undo();
        Check.due("its characters stay", x.firstError(), 5);
        Check.due("they tell a poem", x.read(), 1);
        x.undo();
        Check.due("read cleared it", x.clearBuffer(), 0);
        x.set(3);
        Poems.type(x, "1");
        x.clearBuffer();
        x.undo();
        Check.due("it stays cleared", x.clearBuffer(), 0);
    }

    // "and the saved states": each undo drops one, and none brings one back
    private static void notTheSavedStates() {
        FallingLines x = new FallingLines();
        x.set(3);
        x.set(4);
        x.set(5);
        Check.due("two are left", x.undo(), 2);
        Check.due("one is left", x.undo(), 1);
        x.set(6);
        Check.due("a new one in the place of the dropped ones", x.count(11), 2);
        x.undo();
        x.undo();
        Check.due("to the first one", x.set(9), 2);
    }

    // "At most 6 states are saved"
    private static void atMostSix() {
        FallingLines x = new FallingLines();
        for (int i = 1; i <= 20; i++) {
            x.run(1);
            Check.due("saved", x.count(11), Math.min(i, 6));
        }
        for (int left = 5; left >= 0; left--) {
            Check.due("left", x.undo(), left);
            Check.due("the beat", x.count(0), 14 + left);
        }
        Check.state("no seventh", () -> x.undo());
        Check.due("the beat stays", x.count(0), 14);
    }

    // "the oldest one is dropped first"
    private static void oldestFirst() {
        FallingLines x = new FallingLines();
        for (int strength = 3; strength <= 8; strength++) {
            x.set(strength);
        }
        Check.due("six", x.count(11), 6);
        x.set(9);
        Check.due("still six", x.count(11), 6);
        for (int i = 0; i < 6; i++) {
            x.undo();
        }
        Check.due("the setting 2 was dropped", x.set(1), 3);
        for (int strength = 2; strength <= 6; strength++) {
            x.set(strength);
        }
        x.undo();
        x.undo();
        for (int beats = 0; beats < 4; beats++) {
            x.run(1);
        }
        for (int i = 0; i < 6; i++) {
            x.undo();
        }
        Check.due("of eight, two were dropped", x.set(9), 2);
        Check.due("the beats are undone", x.count(0), 0);
    }

    // "Throws IllegalStateException if there is none"
    private static void noneLeft() {
        FallingLines x = new FallingLines();
        Check.state("of a new object", () -> x.undo());
        x.append('1');
        Check.state("append saves none", () -> x.undo());
        x.run(1);
        Check.due("the only one", x.undo(), 0);
        Check.state("no more", () -> x.undo());
        Check.due("the beat", x.count(0), 0);
    }

    // "saves the state from before it": what comes then does not reach the saved ones
    private static void statesStayApart() {
        FallingLines x = new FallingLines();
        x.line(2, 1, 4, 0, 0);
        x.run(3);
        x.push(0, true);
        x.undo();
        x.push(0, false);
        x.push(0, false);
        x.undo();
        Check.due("one push is undone", x.lineOf(0, 3), 3);
        Check.due("its square", x.at(3, 3), 0);
        x.undo();
        Check.due("the other one, too", x.lineOf(0, 3), 4);
        Check.due("its squares", x.at(3, 5), 0);
        Check.due("and no other", x.at(3, 3), FallingLines.NONE);
        x.run(20);
        x.undo();
        Check.due("where it fell from", x.lineOf(0, 6), 3);
    }

    private static void same(String what, FallingLines x, Check.Call call, String thrown) {
        long before = x.digest();
        Check.dueText(what, Check.answerOf(call), thrown);
        Check.due(what + " changes nothing", x.digest(), before);
    }

    // "A call that throws an exception changes nothing."
    private static void changesNothing() {
        String argument = "IllegalArgumentException";
        String state = "IllegalStateException";
        String index = "IndexOutOfBoundsException";
        FallingLines x = busy();
        Poems.type(x, "1w1@1;1w");
        same("line", x, () -> x.line(1, 10, 0, 0, 0), argument);
        same("line, off the screen", x, () -> x.line(12, 1, 13, 0, 0), argument);
        same("run", x, () -> x.run(51), argument);
        same("reset", x, () -> x.reset(-1), argument);
        same("push, no such line", x, () -> x.push(5, true), index);
        same("push, a waiting one", x, () -> x.push(3, true), state);
        same("push, a gone one", x, () -> x.push(0, true), state);
        same("set", x, () -> x.set(10), argument);
        same("append", x, () -> x.append(127), argument);
        same("read", x, () -> x.read(), argument);
        same("lineOf, no such line", x, () -> x.lineOf(5, 0), index);
        same("lineOf", x, () -> x.lineOf(0, 12), argument);
        same("at", x, () -> x.at(16, 0), argument);
        same("reads", x, () -> x.reads(-1), argument);
        same("count", x, () -> x.count(12), argument);
        same("ifDropped", x, () -> x.ifDropped(1, 1, 24, 0), argument);
        same("bestColumn", x, () -> x.bestColumn(13, 1), argument);
        same("ifReset", x, () -> x.ifReset(4), argument);
        FallingLines full = Poems.typed("1w1@1;1w1@1;1w1@1;1w1@1;1w1@1;1w1@1;1w1@1;1w1@1;1w1@1;1w1@1?");
        same("undo", full, () -> full.undo(), state);
        for (int i = 0; i < 10; i++) {
            full.line(12, 9, 1, 0, 0);
        }
        same("line, the eleventh", full, () -> full.line(1, 1, 0, 0, 0), state);
        same("append, the 61st", full, () -> full.append('1'), state);
        for (int i = 0; i < 19; i++) {
            full.run(50);
        }
        same("run, above 999", full, () -> full.run(50), state);
        same("run of 51, above 999", full, () -> full.run(51), argument);
    }

    // "If several exceptions apply, the one that is named first in the throws clause is thrown."
    private static void namedFirst() {
        FallingLines x = new FallingLines();
        for (int i = 0; i < 10; i++) {
            x.line(1, 1, i, 0, 99);
        }
        Check.argument("line: out of range, and ten lines", () -> x.line(0, 1, 0, 0, 0));
        Check.argument("line: off the screen, and ten lines", () -> x.line(2, 1, 23, 0, 0));
        for (int i = 0; i < 19; i++) {
            x.run(50);
        }
        x.run(49);
        Check.argument("run: no beats, and the beat 999", () -> x.run(0));
        Check.argument("run: too many beats, and the beat 999", () -> x.run(51));
        Check.argument("run: the most, and the beat 999", () -> x.run(Integer.MAX_VALUE));
        Check.index("push: no such line, so it is not on the screen, either", () -> x.push(10, true));
        Check.index("lineOf: no such line, and no such property", () -> x.lineOf(10, 12));
        Check.index("lineOf: both below", () -> x.lineOf(-1, -1));
        for (int i = 0; i < 60; i++) {
            x.append('~');
        }
        Check.argument("append: out of range, and a full buffer", () -> x.append(32));
    }
}
