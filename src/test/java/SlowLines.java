import java.util.ArrayList;
import java.util.Comparator;
import java.util.List;
import java.util.regex.Pattern;

/** The document told a second time, square by square and without thought of speed, to compare with. */
final class SlowLines {
    static final class Row {
        int number;
        int width;
        int weight;
        int verse;
        int column;
        int beat;
        int row = -1;
        boolean gone;

        boolean on() {
            return !gone && row >= 0;
        }

        boolean waits() {
            return !gone && row < 0;
        }

        int last() {
            return column + width - 1;
        }

        Row copy() {
            Row r = new Row();
            r.number = number;
            r.width = width;
            r.weight = weight;
            r.verse = verse;
            r.column = column;
            r.beat = beat;
            r.row = row;
            r.gone = gone;
            return r;
        }
    }

    static final class World {
        final List<Row> rows = new ArrayList<>();
        int beat;
        int strength = 2;
        int broke;

        World copy() {
            World w = new World();
            for (Row r : rows) {
                w.rows.add(r.copy());
            }
            w.beat = beat;
            w.strength = strength;
            w.broke = broke;
            return w;
        }

        Row add(int width, int weight, int column, int verse, int beat) {
            Row r = new Row();
            r.number = rows.size();
            r.width = width;
            r.weight = weight;
            r.column = column;
            r.verse = verse;
            r.beat = beat;
            rows.add(r);
            return r;
        }

        Row on(int row, int column) {
            for (Row r : rows) {
                if (r.on() && r.row == row && r.column <= column && column <= r.last()) {
                    return r;
                }
            }
            return null;
        }

        /** 'n' for nothing, 'd' for down, 'l' and 'r' for the sides. */
        char next(Row r) {
            if (r.row == 15) {
                return 'n';
            }
            int l = 99;
            int g = -1;
            for (int c = r.column; c <= r.last(); c++) {
                if (on(r.row + 1, c) != null) {
                    l = Math.min(l, c);
                    g = Math.max(g, c);
                }
            }
            if (g < 0) {
                return 'd';
            }
            int m = r.column + r.last();
            if (m < 2 * l && r.column > 0 && on(r.row, r.column - 1) == null) {
                return 'l';
            }
            if (m > 2 * g && r.last() < 23 && on(r.row, r.last() + 1) == null) {
                return 'r';
            }
            return 'n';
        }

        int load(Row r) {
            int load = 0;
            for (Row other : near(r, -1)) {
                load += other.weight;
            }
            return load;
        }

        List<Row> near(Row r, int way) {
            List<Row> found = new ArrayList<>();
            if (r.on()) {
                for (int c = r.column; c <= r.last(); c++) {
                    Row other = on(r.row + way, c);
                    if (other != null && !found.contains(other)) {
                        found.add(other);
                    }
                }
            }
            return found;
        }

        boolean free(Row r, int row) {
            for (int c = r.column; c <= r.last(); c++) {
                if (on(row, c) != null) {
                    return false;
                }
            }
            return true;
        }

        void pass() {
            Comparator<Row> heavier = Comparator.comparingInt((Row r) -> -r.weight).thenComparingInt(r -> r.number);
            List<Row> waiting = new ArrayList<>();
            for (Row r : rows) {
                if (r.waits() && r.beat <= beat) {
                    waiting.add(r);
                }
            }
            waiting.sort(heavier);
            for (Row r : waiting) {
                if (free(r, 0)) {
                    r.row = 0;
                }
            }
            List<Row> moving = new ArrayList<>();
            for (Row r : rows) {
                if (r.on()) {
                    moving.add(r);
                }
            }
            moving.sort(Comparator.comparingInt((Row r) -> -r.row).thenComparing(heavier));
            for (Row r : moving) {
                for (int s = 0; s < 1 + r.weight / 4; s++) {
                    char way = next(r);
                    if (way == 'n') {
                        break;
                    }
                    r.row += way == 'd' ? 1 : 0;
                    r.column += way == 'r' ? 1 : way == 'l' ? -1 : 0;
                }
            }
            List<Row> breaking = new ArrayList<>();
            for (Row r : rows) {
                if (load(r) > strength * r.width) {
                    breaking.add(r);
                }
            }
            for (Row r : breaking) {
                r.gone = true;
                broke++;
            }
            beat++;
        }

        boolean rest() {
            for (Row r : rows) {
                boolean fine = r.gone || r.on() && next(r) == 'n' && load(r) <= strength * r.width
                        || r.waits() && r.beat > beat;
                if (!fine) {
                    return false;
                }
            }
            return true;
        }

        int settle() {
            for (int i = 0; i < 200; i++) {
                if (rest()) {
                    return i;
                }
                pass();
            }
            return rest() ? 200 : -1;
        }

        List<Row> order() {
            List<Row> order = new ArrayList<>();
            for (int r = 0; r < 16; r++) {
                for (int c = 0; c < 24; c++) {
                    Row row = on(r, c);
                    if (row != null && !order.contains(row)) {
                        order.add(row);
                    }
                }
            }
            return order;
        }
    }

    private static final String SHAPE = "(1[0-2]|[1-9])w[1-9]@(1[0-9]|2[0-3]|[0-9])(\\+([1-4][0-9]|50|[0-9]))?";
    private static final Pattern POEM = Pattern.compile(SHAPE + "(;" + SHAPE + ")*");

    World world = new World();
    final List<World> saved = new ArrayList<>();
    String buffer = "";

    private void save() {
        saved.add(world.copy());
        if (saved.size() > 6) {
            saved.remove(0);
        }
    }

    private static void need(boolean fine) {
        if (!fine) {
            throw new IllegalArgumentException();
        }
    }

    private static void needState(boolean fine) {
        if (!fine) {
            throw new IllegalStateException();
        }
    }

    private static boolean in(int v, int least, int greatest) {
        return v >= least && v <= greatest;
    }

    private static boolean shape(int width, int weight, int column) {
        return in(width, 1, 12) && in(weight, 1, 9) && in(column, 0, 24 - width);
    }

    private Row needLine(int number) {
        if (!in(number, 0, world.rows.size() - 1)) {
            throw new IndexOutOfBoundsException();
        }
        return world.rows.get(number);
    }

    int line(int width, int weight, int column, int verse, int beat) {
        need(shape(width, weight, column) && in(verse, 0, 3) && in(beat, 0, 99));
        needState(world.rows.size() < 10);
        save();
        return world.add(width, weight, column, verse, beat).number;
    }

    int run(int beats) {
        need(in(beats, 1, 50));
        needState(world.beat + beats <= 999);
        save();
        int before = world.broke;
        for (int i = 0; i < beats; i++) {
            world.pass();
        }
        return world.broke - before;
    }

    int reset(int verse) {
        need(in(verse, 0, 3));
        save();
        return take(world, verse);
    }

    private static int take(World w, int verse) {
        int many = 0;
        for (Row r : w.rows) {
            if (r.verse == verse && !r.gone) {
                r.gone = true;
                many++;
            }
        }
        return many;
    }

    int push(int number, boolean right) {
        Row r = needLine(number);
        int beside = right ? r.last() + 1 : r.column - 1;
        needState(r.on() && in(beside, 0, 23) && world.on(r.row, beside) == null);
        save();
        world.rows.get(number).column += right ? 1 : -1;
        return world.rows.get(number).column;
    }

    int set(int strength) {
        need(in(strength, 1, 9));
        save();
        int before = world.strength;
        world.strength = strength;
        return before;
    }

    int append(int code) {
        need(in(code, 33, 126));
        needState(buffer.length() < 60);
        buffer += (char) code;
        return buffer.length();
    }

    int clearBuffer() {
        int had = buffer.length();
        buffer = "";
        return had;
    }

    /** A text begins a poem if some short ending makes a poem of it. */
    private static boolean begins(String text) {
        for (String end : new String[] {"", "0", "1", "w1@1", "1@1", "@1", "1w1@1"}) {
            if (POEM.matcher(text + end).matches()) {
                return true;
            }
        }
        return false;
    }

    int firstError() {
        for (int i = 0; i < buffer.length(); i++) {
            if (!begins(buffer.substring(0, i + 1))) {
                return i;
            }
        }
        return buffer.length();
    }

    int read() {
        need(POEM.matcher(buffer).matches());
        save();
        int added = 0;
        for (String told : buffer.split(";")) {
            String[] n = told.split("[w@+]");
            int beat = world.beat + (n.length > 3 ? Integer.parseInt(n[3]) : 0);
            int width = Integer.parseInt(n[0]);
            int weight = Integer.parseInt(n[1]);
            int column = Integer.parseInt(n[2]);
            if (!shape(width, weight, column) || beat > 99 || world.rows.size() >= 10) {
                break;
            }
            world.add(width, weight, column, 0, beat);
            added++;
        }
        buffer = "";
        return added;
    }

    int undo() {
        needState(!saved.isEmpty());
        world = saved.remove(saved.size() - 1);
        return saved.size();
    }

    int lineOf(int number, int what) {
        Row r = needLine(number);
        need(in(what, 0, 11));
        switch (what) {
            case 0: return r.width;
            case 1: return r.weight;
            case 2: return r.verse;
            case 3: return r.column;
            case 4: return r.beat;
            case 5: return r.gone ? 3 : r.row < 0 ? 0 : world.next(r) == 'n' ? 2 : 1;
            case 6: return r.on() ? r.row : -1;
            case 7: return world.load(r);
            case 8: return world.strength * r.width;
            case 9: return mask(world.near(r, 1));
            case 10: return mask(world.near(r, -1));
            default: return world.order().indexOf(r);
        }
    }

    private static int mask(List<Row> rows) {
        int mask = 0;
        for (Row r : rows) {
            mask |= 1 << r.number;
        }
        return mask;
    }

    int at(int row, int column) {
        need(in(row, 0, 15) && in(column, 0, 23));
        Row r = world.on(row, column);
        return r == null ? -1 : r.number;
    }

    int reads(int place) {
        need(place >= 0);
        List<Row> order = world.order();
        return place < order.size() ? order.get(place).number : -1;
    }

    int count(int what) {
        need(in(what, 0, 11));
        int[] states = new int[4];
        int greatest = 0;
        int squares = 0;
        for (Row r : world.rows) {
            states[lineOf(r.number, 5)]++;
            greatest = Math.max(greatest, world.load(r));
            squares += r.on() ? r.width : 0;
        }
        List<Row> order = world.order();
        int top = order.isEmpty() ? -1 : order.get(0).row;
        int[] numbers = {world.beat, world.rows.size(), states[0], states[1] + states[2], states[2], states[3],
            world.broke, top, squares, world.rest() ? 1 : 0, greatest, saved.size()};
        return numbers[what];
    }

    int untilRest() {
        return world.copy().settle();
    }

    int ifDropped(int width, int weight, int column, int what) {
        need(shape(width, weight, column) && in(what, 0, 2));
        World w = world.copy();
        Row r = w.add(width, weight, column, 0, w.beat);
        boolean rests = w.settle() >= 0;
        if (what == 2) {
            return w.broke - world.broke;
        }
        return !rests || !r.on() ? -1 : what == 0 ? r.row : r.column;
    }

    int bestColumn(int width, int weight) {
        need(in(width, 1, 12) && in(weight, 1, 9));
        int best = -1;
        for (int c = 24 - width; c >= 0; c--) {
            int row = ifDropped(width, weight, c, 0);
            if (row < 0) {
                continue;
            }
            int than = best < 0 ? -1 : ifDropped(width, weight, best, 0);
            if (row > than || row == than
                    && ifDropped(width, weight, c, 2) <= ifDropped(width, weight, best, 2)) {
                best = c;
            }
        }
        return best;
    }

    int ifReset(int verse) {
        need(in(verse, 0, 3));
        World w = world.copy();
        take(w, verse);
        if (w.settle() < 0) {
            return -1;
        }
        int many = 0;
        for (Row r : world.rows) {
            Row then = w.rows.get(r.number);
            if (r.on() && r.verse != verse && (then.gone || then.row > r.row)) {
                many++;
            }
        }
        return many;
    }

    double fullness() {
        return count(8) / 384.0;
    }

    long digest() {
        long h = 2909;
        for (int i = 0; i < 12; i++) {
            h = 31 * h + count(i);
        }
        h = 31 * h + world.strength;
        for (Row r : world.rows) {
            for (int i = 0; i < 12; i++) {
                h = 31 * h + lineOf(r.number, i);
            }
        }
        for (int r = 0; r < 16; r++) {
            for (int c = 0; c < 24; c++) {
                h = 31 * h + at(r, c);
            }
        }
        for (int i = 0; i < 10; i++) {
            h = 31 * h + reads(i);
        }
        h = 31 * h + untilRest();
        for (int i = 0; i < 3; i++) {
            h = 31 * h + ifDropped(5, 3, 4, i);
        }
        h = 31 * h + bestColumn(6, 2);
        for (int i = 0; i < 4; i++) {
            h = 31 * h + ifReset(i);
        }
        h = 31 * h + Double.doubleToLongBits(fullness());
        h = 31 * h + buffer.length();
        for (char c : buffer.toCharArray()) {
            h = 31 * h + c;
        }
        return h;
    }
}
