/** The calls that README.md shows, in its order, answer what it tells. */
final class ReadmeTest {
    private ReadmeTest() {
    }

    public static void main(String[] args) {
        FallingLines poem = new FallingLines();
        int post = poem.line(1, 9, 5, 0, 0);
        Check.due("run", poem.run(5), 0);
        Check.due("at", poem.at(15, 5), post);
        Check.due("ifDropped", poem.ifDropped(3, 2, 4, 0), 14);
        for (char c : "3w2@4+1".toCharArray()) {
            poem.append(c);
        }
        Check.due("read", poem.read(), 1);
        poem.run(16);
        Check.due("lineOf", poem.lineOf(1, 9), 1);
        Check.due("reads", poem.reads(0), 1);
        Check.due("undo", poem.undo(), 3);
        Check.end("ReadmeTest");
    }
}
