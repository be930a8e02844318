import java.util.ArrayDeque;
import java.util.ArrayList;
import java.util.Comparator;
import java.util.Deque;
import java.util.List;
import java.util.Map;
import java.util.NoSuchElementException;
import java.util.TreeMap;
import java.util.function.LongSupplier;

/**
 * The whole of the document once more, from its first line: the tape, texts, the house, acts and
 * trouble, told by what the document says and by nothing of the class; houses are measured by Plain.
 */
final class Model {
    /** A call that is refused, with the number that the document tells. */
    private static final class Refused extends RuntimeException {
        private static final long serialVersionUID = 1L;
        final int number;

        Refused(int number) {
            this.number = number;
        }
    }

    private final StringBuilder tape = new StringBuilder();
    private final Deque<Plain> past = new ArrayDeque<>();
    private Plain house = null;
    private List<int[]> marks = new ArrayList<>();
    private int trouble = 0;
    private int fault = 0;
    private int place = -1;

    // ---- what is told

    int trouble() {
        return trouble;
    }

    int fault() {
        return fault;
    }

    int where() {
        return trouble == 4 ? place : -1;
    }

    int bytes() {
        return tape.length();
    }

    int row(int y) {
        if (house == null || y < 0 || y >= house.high) {
            throw new NoSuchElementException();
        }
        int bits = 0;
        for (int x = 0; x < house.wide; x++) {
            bits += house.inside[y][x] ? 1 << x : 0;
        }
        return bits;
    }

    // ---- refusing

    private long ask(LongSupplier answer) {
        try {
            long told = answer.getAsLong();
            trouble = 0;
            return told;
        } catch (Refused refused) {
            trouble = refused.number;
            return -1;
        }
    }

    private static void need(boolean holds, int number) {
        if (!holds) {
            throw new Refused(number);
        }
    }

    private void needHouse() {
        need(house != null, 1);
    }

    private static void needWithin(int value, int least, int most, int number) {
        need(value >= least && value <= most, number);
    }

    private void needCell(int x, int y) {
        needHouse();
        needWithin(x, 0, house.wide - 1, 1);
        needWithin(y, 0, house.high - 1, 1);
    }

    private void needPoint(int px, int py) {
        needWithin(px, 0, 4 * house.wide, 2);
        needWithin(py, 0, 4 * house.high, 2);
    }

    private static void needTime(int a, int b) {
        needWithin(a, 0, 9999, 2);
        needWithin(b, 1, 9999, 2);
    }

    private void needMark(int i) {
        needHouse();
        needWithin(i, 0, marks.size() - 1, 1);
    }

    // ---- texts

    long feed(int... numbers) {
        if (tape.length() + 20 > 400) {
            return -1;
        }
        for (int number : numbers) {
            for (int k = 3; k >= 0; k--) {
                tape.append((char) (number >>> 8 * k & 255));
            }
        }
        return tape.length();
    }

    long text(int n) {
        return ask(() -> {
            needWithin(n, 0, tape.length(), 2);
            ModelText told = new ModelText(tape.substring(0, n));
            tape.setLength(0);
            fault = told.fault;
            place = told.place;
            need(fault == 0, 4);
            house = told.house();
            marks = told.marks;
            past.clear();
            return inside();
        });
    }

    // ---- the house

    private int inside() {
        int count = 0;
        for (boolean[] line : house.inside) {
            for (boolean is : line) {
                count += is ? 1 : 0;
            }
        }
        return count;
    }

    long about(int what) {
        return ask(() -> {
            needHouse();
            needWithin(what, 0, 7, 1);
            switch (what) {
                case 0: return house.wide;
                case 1: return house.high;
                case 2: return inside();
                case 3: return house.walls().size();
                case 4: return marks.size();
                case 5: return house.events().size();
                case 6: return house.new Left(0, 1).parts;
                default: return past.size();
            }
        });
    }

    long cell(int x, int y) {
        return ask(() -> {
            needCell(x, y);
            return house.inside[y][x] ? 1 : 0;
        });
    }

    long speed(int side) {
        return ask(() -> {
            needHouse();
            needWithin(side, 0, 3, 1);
            return house.speeds[side];
        });
    }

    long wall(int i, int what) {
        return ask(() -> {
            needHouse();
            needWithin(i, 0, house.walls().size() - 1, 1);
            needWithin(what, 0, 3, 1);
            return house.walls().get(i)[what];
        });
    }

    long wallOf(int x, int y, int side) {
        return ask(() -> {
            needCell(x, y);
            needWithin(side, 0, 3, 1);
            need(house.inside[y][x], 5);
            return house.wallOf(x, y, side);
        });
    }

    long mark(int i, int what) {
        return ask(() -> {
            needMark(i);
            needWithin(what, 0, 1, 1);
            return marks.get(i)[what];
        });
    }

    // ---- points

    private static long lowest(long above, long below, int what) {
        return (what == 0 ? above : below) / Plain.gcd(above, below);
    }

    long height(int px, int py, int what) {
        return ask(() -> {
            needHouse();
            needWithin(what, 0, 1, 1);
            needPoint(px, py);
            return lowest(house.height(px, py), 10080, what);
        });
    }

    long slopes(int px, int py) {
        return ask(() -> {
            needHouse();
            needPoint(px, py);
            return house.slopes(px, py);
        });
    }

    long drop(int px, int py) {
        return ask(() -> {
            needHouse();
            needPoint(px, py);
            return house.drop(px, py);
        });
    }

    private interface OfPoint {
        boolean holds(int px, int py);
    }

    private long countPoints(OfPoint which) {
        long count = 0;
        for (int py = 0; py <= 4 * house.high; py++) {
            for (int px = 0; px <= 4 * house.wide; px++) {
                count += which.holds(px, py) ? 1 : 0;
            }
        }
        return count;
    }

    long catches(int i) {
        return ask(() -> {
            needHouse();
            needWithin(i, 0, house.walls().size() - 1, 1);
            return countPoints((px, py) -> house.drop(px, py) == i);
        });
    }

    long faces(int set) {
        return ask(() -> {
            needHouse();
            needWithin(set, 0, 15, 2);
            return countPoints((px, py) -> house.slopes(px, py) == set);
        });
    }

    long rim(int side) {
        return ask(() -> {
            needHouse();
            needWithin(side, 0, 3, 1);
            return house.walls().stream().filter(w -> w[0] == side).mapToInt(w -> w[3]).sum();
        });
    }

    long highest(int what) {
        return ask(() -> {
            needHouse();
            needWithin(what, 0, 1, 1);
            int[] best = {0, 0};
            countPoints((px, py) -> {
                if (house.height(px, py) > house.height(best[0], best[1])) {
                    best[0] = px;
                    best[1] = py;
                }
                return true;
            });
            return best[what];
        });
    }

    private long heightOf(int mark) {
        return house.height(marks.get(mark)[0], marks.get(mark)[1]);
    }

    long ranked(int i) {
        return ask(() -> {
            needMark(i);
            List<Integer> order = new ArrayList<>();
            for (int mark = 0; mark < marks.size(); mark++) {
                order.add(mark);
            }
            // The library's sort leaves like ones in their order.
            order.sort(Comparator.comparing(mark -> -heightOf(mark)));
            return order.get(i);
        });
    }

    long points(int a, int b) {
        return ask(() -> {
            needHouse();
            needTime(a, b);
            return countPoints((px, py) -> house.height(px, py) * b > 10080L * a);
        });
    }

    // ---- what is left

    long pieces(int a, int b) {
        return ask(() -> {
            needHouse();
            needTime(a, b);
            return house.new Left(a, b).parts;
        });
    }

    long area(int a, int b, int what) {
        return ask(() -> {
            needHouse();
            needWithin(what, 0, 1, 1);
            needTime(a, b);
            return lowest(house.new Left(a, b).area(0), 4L * b * b, what);
        });
    }

    long piece(int a, int b, int i, int what) {
        return ask(() -> {
            needHouse();
            need(i >= 0, 1);
            needWithin(what, 0, 1, 1);
            needTime(a, b);
            Plain.Left left = house.new Left(a, b);
            need(i < left.parts, 1);
            return lowest(left.area(i + 1), 4L * b * b, what);
        });
    }

    long event(int k, int what) {
        return ask(() -> {
            needHouse();
            need(k >= 0, 1);
            needWithin(what, 0, 4, 1);
            List<long[]> events = house.events();
            return k < events.size() ? events.get(k)[what] : -2;
        });
    }

    /** Over the whole plane the roof is highest where rims meet, so at such a time the last of it is gone. */
    long top(int what) {
        return ask(() -> {
            needHouse();
            needWithin(what, 0, 1, 1);
            int across = house.speeds[1] + house.speeds[3];
            int down = house.speeds[0] + house.speeds[2];
            TreeMap<Long, Boolean> left = new TreeMap<>();
            for (long k = 0; k <= house.wide; k++) {
                left.put(k * down, house.new Left(k * down, (long) across * down).parts > 0);
            }
            for (long k = 0; k <= house.high; k++) {
                left.put(k * across, house.new Left(k * across, (long) across * down).parts > 0);
            }
            for (Map.Entry<Long, Boolean> time : left.entrySet()) {
                if (!time.getValue()) {
                    return lowest(time.getKey(), (long) across * down, what);
                }
            }
            throw new IllegalStateException("a house that never ends");
        });
    }

    long higher(int i, int j) {
        return ask(() -> {
            needMark(i);
            needMark(j);
            int order = Long.compare(heightOf(i), heightOf(j));
            return order < 0 ? -2 : order;
        });
    }

    long under(int what) {
        return ask(() -> {
            needHouse();
            needWithin(what, 0, 1, 1);
            return house.under()[what];
        });
    }

    long would(int x, int y, int what) {
        return ask(() -> {
            needCell(x, y);
            needWithin(what, 0, 1, 1);
            need(!house.inside[y][x] || inside() > 1, 5);
            Plain other = copy();
            other.inside[y][x] = !other.inside[y][x];
            return other.under()[what];
        });
    }

    // ---- acts

    private Plain copy() {
        boolean[][] cells = new boolean[house.high][];
        for (int y = 0; y < house.high; y++) {
            cells[y] = house.inside[y].clone();
        }
        return new Plain(cells, house.speeds.clone());
    }

    private void act() {
        past.push(house);
        if (past.size() > 10) {
            past.removeLast();
        }
        house = copy();
    }

    long set(int x, int y, boolean is) {
        return ask(() -> {
            needCell(x, y);
            need(house.inside[y][x] != is, 5);
            need(is || inside() > 1, 5);
            act();
            house.inside[y][x] = is;
            return inside();
        });
    }

    long runs(int side, int v) {
        return ask(() -> {
            needHouse();
            needWithin(side, 0, 3, 1);
            needWithin(v, 1, 9, 2);
            int was = house.speeds[side];
            act();
            house.speeds[side] = v;
            return was;
        });
    }

    boolean turn(int what) {
        return 1 == ask(() -> {
            needHouse();
            needWithin(what, 0, 1, 1);
            Plain was = house;
            act();
            for (int y = 0; y < house.high; y++) {
                for (int x = 0; x < house.wide; x++) {
                    house.inside[y][x] = what == 0 ? was.inside[y][house.wide - 1 - x] : was.inside[house.high - 1 - y][x];
                }
            }
            return 1;
        });
    }

    long grow() {
        return ask(() -> {
            needHouse();
            int before = inside();
            Plain was = house;
            act();
            for (int y = 0; y < house.high; y++) {
                for (int x = 0; x < house.wide; x++) {
                    house.inside[y][x] = was.isInside(x, y) || was.isInside(x - 1, y) || was.isInside(x + 1, y)
                            || was.isInside(x, y - 1) || was.isInside(x, y + 1);
                }
            }
            return inside() - before;
        });
    }

    long undo() {
        return ask(() -> {
            needHouse();
            need(!past.isEmpty(), 5);
            house = past.pop();
            return past.size();
        });
    }
}
