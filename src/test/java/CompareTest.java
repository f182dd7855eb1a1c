import java.util.Random;

/** Long runs of calls on a FallingLines and on a SlowLines, whose answers must be the same. */
final class CompareTest {
    private static final int RUNS = 150;
    // What later calls of an object answer is free.
    private static final int CALLS = 512;
    private static final int LONGEST_TYPING = 4;
    private static final int[] ODD = {Integer.MIN_VALUE, -2, -1, 13, 24, 51, 100, 127, 1000, Integer.MAX_VALUE};

    private final Random random;
    private final FallingLines fast = new FallingLines();
    private final SlowLines slow = new SlowLines();
    private final String name;
    // How close together lines are let go, so that some runs are crowded and some are sparse.
    private final int crowd;
    private String typing = "";
    private int calls = 0;

    private CompareTest(int run) {
        random = new Random(run);
        name = "run " + run + ", call ";
        crowd = 1 + random.nextInt(24);
    }

    public static void main(String[] args) {
        for (int run = 0; run < RUNS; run++) {
            new CompareTest(run).compare();
        }
        Check.end("CompareTest");
    }

    private void compare() {
        // A text may be typed by several calls at once.
        while (calls + LONGEST_TYPING <= CALLS) {
            String where = name + calls;
            if (random.nextInt(40) == 0) {
                same(where + " digest", () -> fast.digest(), () -> slow.digest());
            } else {
                callOne(where);
            }
        }
    }

    private void same(String where, Check.Call one, Check.Call two) {
        calls++;
        Check.dueText(where, Check.answerOf(one), Check.answerOf(two));
    }

    /** Mostly a number in the bounds, now and then one beside them. */
    private int pick(int least, int greatest) {
        int kind = random.nextInt(100);
        if (kind == 0) {
            return ODD[random.nextInt(ODD.length)];
        }
        if (kind == 1) {
            return random.nextBoolean() ? least - 1 : greatest + 1;
        }
        return least + random.nextInt(greatest - least + 1);
    }

    private void callOne(String where) {
        int kind = random.nextInt(100);
        if (kind < 45) {
            change(where, kind);
        } else if (kind < 60) {
            type(where);
        } else {
            look(where, kind);
        }
    }

    private void change(String where, int kind) {
        if (kind < 18) {
            int w = random.nextInt(3) == 0 ? pick(1, 12) : pick(1, 6);
            int g = pick(1, 9);
            int c = random.nextInt(4) == 0 ? pick(0, 23) : Math.min(24 - Math.max(1, Math.min(w, 12)), pick(0, crowd));
            int v = pick(0, 3);
            int b = Math.min(slow.world.beat, 99) + (random.nextInt(3) == 0 ? pick(0, 9) : 0);
            same(where + " line", () -> fast.line(w, g, c, v, b), () -> slow.line(w, g, c, v, b));
        } else if (kind < 32) {
            int beats = random.nextInt(30) == 0 ? pick(1, 50) : pick(1, 4);
            same(where + " run", () -> fast.run(beats), () -> slow.run(beats));
        } else if (kind < 34) {
            int verse = pick(0, 3);
            same(where + " reset", () -> fast.reset(verse), () -> slow.reset(verse));
        } else if (kind < 38) {
            int number = pick(0, 9);
            boolean right = random.nextBoolean();
            same(where + " push", () -> fast.push(number, right), () -> slow.push(number, right));
        } else if (kind < 40) {
            int strength = pick(1, 9);
            same(where + " set", () -> fast.set(strength), () -> slow.set(strength));
        } else {
            same(where + " undo", () -> fast.undo(), () -> slow.undo());
        }
    }

    private void type(String where) {
        int kind = random.nextInt(12);
        if (kind == 0) {
            same(where + " clearBuffer", () -> fast.clearBuffer(), () -> slow.clearBuffer());
        } else if (kind == 1) {
            same(where + " read", () -> fast.read(), () -> slow.read());
        } else if (kind == 2) {
            same(where + " firstError", () -> fast.firstError(), () -> slow.firstError());
        } else {
            for (int i = 0; i < LONGEST_TYPING; i++) {
                int code = nextCode();
                same(where + " append", () -> fast.append(code), () -> slow.append(code));
            }
        }
    }

    /** Types whole lines, with a wrong character now and then. */
    private int nextCode() {
        if (typing.isEmpty()) {
            typing = random.nextInt(13) + "w" + (1 + random.nextInt(9)) + "@" + random.nextInt(24)
                    + (random.nextInt(3) == 0 ? "+" + random.nextInt(55) : "") + ";";
        }
        char code = typing.charAt(0);
        typing = typing.substring(1);
        int kind = random.nextInt(60);
        return kind == 0 ? pick(33, 126) : kind == 1 ? '0' + random.nextInt(10) : code;
    }

    private void look(String where, int kind) {
        int n = pick(0, 9);
        int what = pick(0, 11);
        int row = pick(0, 15);
        int c = pick(0, 23);
        int w = pick(1, 12);
        int g = pick(1, 9);
        int verse = pick(0, 3);
        int part = pick(0, 2);
        if (kind < 70) {
            same(where + " lineOf " + n + " " + what, () -> fast.lineOf(n, what), () -> slow.lineOf(n, what));
        } else if (kind < 73) {
            same(where + " at", () -> fast.at(row, c), () -> slow.at(row, c));
        } else if (kind < 76) {
            same(where + " reads", () -> fast.reads(n), () -> slow.reads(n));
        } else if (kind < 84) {
            same(where + " count " + what, () -> fast.count(what), () -> slow.count(what));
        } else if (kind < 87) {
            same(where + " untilRest", () -> fast.untilRest(), () -> slow.untilRest());
        } else if (kind < 94) {
            same(where + " ifDropped", () -> fast.ifDropped(w, g, c, part), () -> slow.ifDropped(w, g, c, part));
        } else if (kind < 95) {
            same(where + " bestColumn", () -> fast.bestColumn(w, g), () -> slow.bestColumn(w, g));
        } else if (kind < 98) {
            same(where + " ifReset", () -> fast.ifReset(verse), () -> slow.ifReset(verse));
        } else {
            same(where + " fullness", () -> Double.doubleToLongBits(fast.fullness()),
                    () -> Double.doubleToLongBits(slow.fullness()));
        }
    }
}
