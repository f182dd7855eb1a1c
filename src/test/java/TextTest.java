/** The head 'Input text' and the promises 7 to 10: a test for each sentence, which stands above it. */
final class TextTest {
    private TextTest() {
    }

    public static void main(String[] args) {
        sixtyCharacters();
        codes();
        clears();
        oneOrMoreLines();
        widths();
        weights();
        columns();
        beats();
        verse();
        leadingZeros();
        everyCharacter();
        anyLength();
        firstOfSeveral();
        notAPoem();
        addsAsLineDoes();
        beatFromNow();
        stopsAtColumn();
        stopsAtBeat();
        stopsAtTenLines();
        undoable();
        Check.end("TextTest");
    }

    private static String times(String part, int many) {
        StringBuilder text = new StringBuilder();
        for (int i = 0; i < many; i++) {
            text.append(part);
        }
        return text.toString();
    }

    // "The buffer has at most 60 characters." "the new length of the buffer" "if the buffer has 60 characters"
    private static void sixtyCharacters() {
        FallingLines x = new FallingLines();
        for (int length = 1; length <= 60; length++) {
            Check.due("the new length", x.append('w'), length);
        }
        Check.state("a character more", () -> x.append('w'));
        Check.due("the length that it had", x.clearBuffer(), 60);
        Check.due("room again", x.append('1'), 1);
        FallingLines y = Poems.typed(times("1w1@1;", 9) + "1w1@12");
        Check.state("full of a poem", () -> y.append('1'));
        Check.due("the poem stands", y.read(), 10);
        Check.due("room after read, too", y.append('1'), 1);
    }

    // "the character code, 33 to 126"
    private static void codes() {
        FallingLines x = new FallingLines();
        int length = 0;
        for (int code = 0; code <= 130; code++) {
            int c = code;
            if (code < 33 || code > 126) {
                Check.argument("code " + code, () -> x.append(c));
            } else if (length < 60) {
                length++;
                Check.due("code " + code, x.append(code), length);
            }
        }
        FallingLines y = new FallingLines();
        for (int code = 93; code <= 126; code++) {
            Check.due("code " + code, y.append(code), code - 92);
        }
        Check.argument("a negative code", () -> y.append(-'1'));
        Check.argument("a code beyond a byte", () -> y.append(256 + '1'));
        Check.argument("a code beyond a char", () -> y.append(65536 + '1'));
        Check.due("none of these is there", y.clearBuffer(), 34);
    }

    // "Clears the buffer. Returns the length that it had."
    private static void clears() {
        FallingLines x = new FallingLines();
        Check.due("an empty one", x.clearBuffer(), 0);
        Poems.type(x, "~");
        Check.due("a wrong one", x.clearBuffer(), 1);
        Check.due("cleared", x.firstError(), 0);
        Poems.type(x, "1w1@0");
        Check.due("nothing is left of it", x.firstError(), 5);
        Check.due("looks clear nothing", x.clearBuffer(), 5);
    }

    // "A poem as a text is one or more lines with ";" between them"
    private static void oneOrMoreLines() {
        Check.argument("none", () -> new FallingLines().read());
        Check.due("none is no error", new FallingLines().firstError(), 0);
        for (int lines = 1; lines <= 10; lines++) {
            String text = times(";1w1@1", lines).substring(1);
            Check.due(lines + " lines", Poems.typed(text).read(), lines);
            Check.argument("one after the last", () -> Poems.typed(text + ";").read());
            Check.due("is no error", Poems.typed(text + ";").firstError(), lines * 6);
        }
        Check.due("one before the first", Poems.typed(";1w1@1").firstError(), 0);
        Check.due("two between", Poems.typed("1w1@1;;1w1@1").firstError(), 6);
        Check.due("another sign between", Poems.typed("1w1@1,1w1@1").firstError(), 5);
    }

    private static void number(String before, int number, String after, int greatest) {
        String text = before + number + after;
        int least = before.endsWith("@") || before.endsWith("+") ? 0 : 1;
        boolean fine = number >= least && number <= greatest;
        boolean firstDigitWrong = number < least;
        int error = before.length() + (firstDigitWrong ? 0 : 1);
        Check.due(text, Poems.typed(text).firstError(), fine ? text.length() : error);
        String told = Check.answerOf(() -> Poems.typed(text).read());
        Check.dueText("read of " + text, told, fine ? "1" : "IllegalArgumentException");
    }

    // "a width, 1 to 12"
    private static void widths() {
        for (int width = 0; width <= 99; width++) {
            number("", width, "w1@0", 12);
        }
        Check.due("three digits", Poems.typed("123w1@0").firstError(), 2);
    }

    // ""w", a weight, 1 to 9"
    private static void weights() {
        for (int weight = 0; weight <= 99; weight++) {
            number("1w", weight, "@0", 9);
        }
    }

    // ""@", a first column, 0 to 23"
    private static void columns() {
        for (int column = 0; column <= 99; column++) {
            number("1w1@", column, "", 23);
            number("1w1@", column, "+1", 23);
        }
        Check.due("three digits", Poems.typed("1w1@100").firstError(), 6);
    }

    // "and perhaps "+" and a number of beats from now on, 0 to 50 (without it 0)"
    private static void beats() {
        for (int beats = 0; beats <= 99; beats++) {
            number("1w1@0+", beats, "", 50);
        }
        Check.due("three digits", Poems.typed("1w1@0+100").firstError(), 8);
        FallingLines x = Poems.typed("1w1@0+50;1w1@0;1w1@0+0");
        x.read();
        int[] starts = {50, 0, 0};
        for (int i = 0; i < starts.length; i++) {
            Check.due("its beat", x.lineOf(i, 4), starts[i]);
        }
    }

    // "all of the verse 0"
    private static void verse() {
        FallingLines x = new FallingLines();
        x.line(1, 1, 0, 3, 0);
        Poems.type(x, "1w1@1;1w1@3+4");
        x.read();
        Check.due("the first one", x.lineOf(1, 2), 0);
        Check.due("the second one", x.lineOf(2, 2), 0);
        Check.due("both are taken away", x.reset(0), 2);
    }

    // "Numbers are without leading zeros."
    private static void leadingZeros() {
        Check.due("width", Poems.typed("01w1@0").firstError(), 0);
        Check.due("weight", Poems.typed("1w01@0").firstError(), 2);
        Check.due("column", Poems.typed("1w1@01").firstError(), 5);
        Check.due("column 00", Poems.typed("1w1@00").firstError(), 5);
        Check.due("beats", Poems.typed("1w1@0+01").firstError(), 7);
        Check.due("beats 00", Poems.typed("1w1@0+00").firstError(), 7);
        Check.due("zeros that lead nothing", Poems.typed("10w1@10+10").firstError(), 10);
    }

    // "a character is a syntax error if no poem as a text .. begins with the characters before it and this character"
    private static void everyCharacter() {
        String digits = "0123456789";
        String[][] follow = {{"", "123456789"}, {"1", "012w"}, {"2", "w"}, {"9", "w"}, {"10", "w"}, {"11", "w"},
            {"12", "w"}, {"1w", "123456789"}, {"1w1", "@"}, {"1w9", "@"}, {"1w1@", digits}, {"1w1@0", "+;"},
            {"1w1@1", digits + "+;"}, {"1w1@2", "0123+;"}, {"1w1@3", "+;"}, {"1w1@9", "+;"}, {"1w1@10", "+;"},
            {"1w1@23", "+;"}, {"1w1@0+", digits}, {"1w1@0+0", ";"}, {"1w1@0+1", digits + ";"},
            {"1w1@0+4", digits + ";"}, {"1w1@0+5", "0;"}, {"1w1@0+6", ";"}, {"1w1@0+9", ";"}, {"1w1@0+10", ";"},
            {"1w1@0+50", ";"}, {"1w1@0;", "123456789"}, {"1w1@0+7;", "123456789"}, {"1w1@0;1", "012w"},
            {"1w1@0;2w3@1", digits + "+;"}};
        for (String[] row : follow) {
            for (char c = 33; c <= 126; c++) {
                int right = row[0].length() + (row[1].indexOf(c) >= 0 ? 1 : 0);
                Check.due(row[0] + c, Poems.typed(row[0] + c).firstError(), right);
            }
        }
    }

    // "no poem as a text, of any length": it may be longer than the buffer, and have more lines than there may be
    private static void anyLength() {
        Check.due("it would go on", Poems.typed(times("1w1@1;", 10)).firstError(), 60);
        Check.due("in a width", Poems.typed(times("1w1@12;", 8) + "1w1@").firstError(), 60);
        FallingLines x = Poems.typed("1w1@1");
        for (int i = 0; i < 10; i++) {
            x.line(1, 1, 0, 0, 0);
        }
        Check.due("beyond ten lines", x.firstError(), 5);
        Check.due("off the screen", Poems.typed("12w1@23").firstError(), 7);
        FallingLines late = Poems.typed("1w1@1+50");
        late.run(50);
        late.run(50);
        Check.due("beyond the beat 99", late.firstError(), 8);
    }

    // "Returns the index of the first character that is a syntax error; the length of the buffer if there is none."
    private static void firstOfSeveral() {
        Check.due("the first one", Poems.typed("1w1@1?1w1@1?").firstError(), 5);
        Check.due("what follows makes it no better", Poems.typed("131w1@1").firstError(), 1);
        Check.due("at the very end", Poems.typed("1w1@1;1w1@1+5?").firstError(), 13);
        FallingLines x = Poems.typed("1w1@1;1w0");
        Check.due("once", x.firstError(), 8);
        Check.due("and again", x.firstError(), 8);
        Poems.type(x, "1");
        Check.due("and with more", x.firstError(), 8);
    }

    // "Throws IllegalArgumentException if the buffer does not tell a poem as a text"
    private static void notAPoem() {
        String whole = "12w9@12+50;10w5@10";
        // How many lines the first characters tell, by their number; 0 where they tell no poem.
        int[] lines = {0, 0, 0, 0, 0, 0, 1, 1, 0, 1, 1, 0, 0, 0, 0, 0, 0, 2, 2};
        for (int length = 0; length < lines.length; length++) {
            String text = whole.substring(0, length);
            String told = Check.answerOf(() -> Poems.typed(text).read());
            String right = lines[length] == 0 ? "IllegalArgumentException" : Integer.toString(lines[length]);
            Check.dueText("read of " + text, told, right);
        }
        FallingLines x = Poems.typed("1w1@1?");
        Check.argument("an error at the end", () -> x.read());
        Check.due("the buffer is not cleared", x.clearBuffer(), 6);
        Check.due("nothing is added", x.count(1), 0);
        Check.due("nothing is saved", x.count(11), 0);
    }

    // "Adds the lines in the buffer as line() does .., one after the other, .. and clears the buffer."
    private static void addsAsLineDoes() {
        FallingLines x = new FallingLines();
        x.line(2, 2, 2, 2, 2);
        Poems.type(x, "12w9@12+3;1w1@0;5w4@19+50");
        Check.due("how many", x.read(), 3);
        FallingLines y = new FallingLines();
        y.line(2, 2, 2, 2, 2);
        y.line(12, 9, 12, 0, 3);
        y.undo();
        y.line(12, 9, 12, 0, 3);
        y.line(1, 1, 0, 0, 0);
        y.line(5, 4, 19, 0, 50);
        for (int number = 0; number < 4; number++) {
            for (int what = 0; what <= 11; what++) {
                Check.due("line " + number + ", " + what, x.lineOf(number, what), y.lineOf(number, what));
            }
        }
        Check.due("the buffer is empty", x.clearBuffer(), 0);
        Check.argument("nothing to read again", () -> x.read());
    }

    // "(its beat is the one of now and the told number together)"
    private static void beatFromNow() {
        FallingLines x = new FallingLines();
        x.run(49);
        Poems.type(x, "1w1@0+50;1w1@1;1w1@2+1");
        Check.due("up to the beat 99", x.read(), 3);
        int[] starts = {99, 49, 50};
        for (int i = 0; i < starts.length; i++) {
            Check.due("its beat", x.lineOf(i, 4), starts[i]);
        }
        x.run(1);
        Check.due("now", x.lineOf(1, 5), 1);
        Check.due("a beat later", x.lineOf(2, 5), 0);
        FallingLines last = new FallingLines();
        last.run(50);
        last.run(49);
        Poems.type(last, "1w1@0");
        Check.due("at the beat 99", last.read(), 1);
    }

    // "up to the first one for which it would throw an exception": off the screen
    private static void stopsAtColumn() {
        FallingLines x = Poems.typed("2w1@22;2w1@23;2w1@0");
        Check.due("its last column would be 24", x.read(), 1);
        Check.due("none behind it", x.count(1), 1);
        Check.due("the buffer is empty", x.clearBuffer(), 0);
        Check.due("the last column is 23", Poems.typed("12w1@12").read(), 1);
        Check.due("the very first one", Poems.typed("12w1@13;1w1@0").read(), 0);
    }

    // the same: a beat above 99
    private static void stopsAtBeat() {
        FallingLines x = new FallingLines();
        x.run(50);
        Poems.type(x, "1w1@0+49;1w1@1+50;1w1@2+1");
        Check.due("at the beat 100", x.read(), 1);
        Check.due("none behind it", x.count(1), 1);
        x.run(50);
        Poems.type(x, "1w1@0");
        Check.due("now is above 99", x.read(), 0);
        Check.due("the buffer is empty", x.clearBuffer(), 0);
    }

    // the same: ten lines
    private static void stopsAtTenLines() {
        FallingLines x = new FallingLines();
        for (int i = 0; i < 9; i++) {
            x.line(1, 1, i, 1, 0);
        }
        x.reset(1);
        Poems.type(x, "1w1@20;1w1@21");
        Check.due("gone ones count", x.read(), 1);
        Check.due("the tenth", x.lineOf(9, 3), 20);
        Poems.type(x, "1w1@21");
        Check.due("no further one", x.read(), 0);
        Check.due("the buffer is empty", x.clearBuffer(), 0);
    }

    // "Undoable, as one call, also if none is added."
    private static void undoable() {
        FallingLines x = Poems.typed("1w1@0;1w1@1;1w1@2");
        x.read();
        Check.due("one state for three lines", x.count(11), 1);
        Poems.type(x, "12w1@20");
        Check.due("none is added", x.read(), 0);
        Check.due("saved, too", x.count(11), 2);
        Check.due("undone", x.undo(), 1);
        Check.due("three lines", x.count(1), 3);
        Check.due("undone, too", x.undo(), 0);
        Check.due("no lines", x.count(1), 0);
        Check.due("the buffer is not restored", x.clearBuffer(), 0);
    }
}
