import java.util.ArrayList;
import java.util.List;
import java.util.TreeSet;

/**
 * The document's terms, word by word and slow: heights by looking at every cell, what is left by
 * cutting the plane along every rim's course and looking at each bit of it. Shares nothing with the
 * class that it is held against.
 */
final class Plain {
    final int wide;
    final int high;
    final boolean[][] inside;
    final int[] speeds;

    Plain(boolean[][] inside, int[] speeds) {
        this.high = inside.length;
        this.wide = inside[0].length;
        this.inside = inside;
        this.speeds = speeds;
    }

    boolean isInside(int x, int y) {
        return x >= 0 && x < wide && y >= 0 && y < high && inside[y][x];
    }

    // ---- points: times by 10080ths

    private long time(int side, int px, int py, int x, int y) {
        long far;
        switch (side) {
            case 0:
                far = py - 4L * (y + 1);
                break;
            case 1:
                far = 4L * x - px;
                break;
            case 2:
                far = 4L * y - py;
                break;
            default:
                far = px - 4L * (x + 1);
                break;
        }
        return far <= 0 ? 0 : far * 2520 / speeds[side];
    }

    private long reach(int px, int py, int x, int y) {
        long most = 0;
        for (int side = 0; side < 4; side++) {
            most = Math.max(most, time(side, px, py, x, y));
        }
        return most;
    }

    long height(int px, int py) {
        long least = Long.MAX_VALUE;
        for (int y = -2; y <= high + 1; y++) {
            for (int x = -2; x <= wide + 1; x++) {
                if (!isInside(x, y)) {
                    least = Math.min(least, reach(px, py, x, y));
                }
            }
        }
        return least;
    }

    int slopes(int px, int py) {
        long h = height(px, py);
        int set = 0;
        for (int side = 0; side < 4 && h > 0; side++) {
            for (int y = -2; y <= high + 1; y++) {
                for (int x = -2; x <= wide + 1; x++) {
                    if (!isInside(x, y) && reach(px, py, x, y) == h && time(side, px, py, x, y) == h) {
                        set |= 1 << side;
                    }
                }
            }
        }
        return set;
    }

    int drop(int px, int py) {
        long h = height(px, py);
        if (h == 0) {
            return -2;
        }
        for (int side = 0; side < 4; side++) {
            for (int y = -2; y <= high + 1; y++) {
                for (int x = -2; x <= wide + 1; x++) {
                    int bx = x - DX[side];
                    int by = y - DY[side];
                    if (!isInside(x, y) && isInside(bx, by)
                            && reach(px, py, x, y) == h && time(side, px, py, x, y) == h) {
                        return wallOf(bx, by, side);
                    }
                }
            }
        }
        throw new IllegalStateException("a drop that runs to no wall");
    }

    // ---- walls

    private static final int[] DX = {0, 1, 0, -1};
    private static final int[] DY = {-1, 0, 1, 0};

    private boolean borders(int x, int y, int side) {
        return isInside(x, y) && !isInside(x + DX[side], y + DY[side]);
    }

    /** Each: side, x, y, how many. */
    List<int[]> walls() {
        List<int[]> walls = new ArrayList<>();
        for (int side = 0; side < 4; side++) {
            int alongX = side % 2 == 0 ? 1 : 0;
            int alongY = 1 - alongX;
            for (int a = 0; a < (alongX == 1 ? high : wide); a++) {
                for (int b = 0; b < (alongX == 1 ? wide : high); b++) {
                    int x = alongX == 1 ? b : a;
                    int y = alongX == 1 ? a : b;
                    if (!borders(x, y, side) || borders(x - alongX, y - alongY, side)) {
                        continue;
                    }
                    int n = 1;
                    while (borders(x + n * alongX, y + n * alongY, side)) {
                        n++;
                    }
                    walls.add(new int[] {side, x, y, n});
                }
            }
        }
        return walls;
    }

    int wallOf(int x, int y, int side) {
        List<int[]> walls = walls();
        for (int i = 0; i < walls.size(); i++) {
            int[] w = walls.get(i);
            int dx = x - w[1];
            int dy = y - w[2];
            boolean along = side % 2 == 0 ? dy == 0 && dx >= 0 && dx < w[3] : dx == 0 && dy >= 0 && dy < w[3];
            if (w[0] == side && along) {
                return i;
            }
        }
        return -2;
    }

    // ---- what is left at a / b; lengths by 2b-ths of a cell

    final class Left {
        final long a;
        final long b;
        final long[] xs;
        final long[] ys;
        final int[][] part;
        int parts = 0;

        Left(long a, long b) {
            this.a = a;
            this.b = b;
            xs = cuts(wide, speeds[1], speeds[3]);
            ys = cuts(high, speeds[2], speeds[0]);
            part = new int[2 * ys.length - 1][2 * xs.length - 1];
            for (int j = 0; j < part.length; j++) {
                for (int i = 0; i < part[j].length; i++) {
                    part[j][i] = isLeft(spot(xs, i), spot(ys, j)) ? 0 : -1;
                }
            }
            // Cut by rows, so parts come out by what lies farthest north, then west.
            for (int j = 0; j < part.length; j++) {
                for (int i = 0; i < part[j].length; i++) {
                    if (part[j][i] == 0) {
                        parts++;
                        fill(i, j);
                    }
                }
            }
        }

        private long[] cuts(int cells, int ahead, int behind) {
            TreeSet<Long> set = new TreeSet<>();
            for (int i = 0; i <= cells; i++) {
                set.add(2 * (i * b - ahead * a));
                set.add(2 * (i * b + behind * a));
            }
            return set.stream().mapToLong(Long::longValue).toArray();
        }

        /** Even: on a cut; odd: between two. */
        private long spot(long[] cuts, int i) {
            return i % 2 == 0 ? cuts[i / 2] : (cuts[i / 2] + cuts[i / 2 + 1]) / 2;
        }

        private boolean isLeft(long px, long py) {
            for (int y = -1; y <= high; y++) {
                for (int x = -1; x <= wide; x++) {
                    if (!isInside(x, y) && !(py - 2 * b * (y + 1) > 2 * a * speeds[0]
                            || 2 * b * x - px > 2 * a * speeds[1]
                            || 2 * b * y - py > 2 * a * speeds[2]
                            || px - 2 * b * (x + 1) > 2 * a * speeds[3])) {
                        return false;
                    }
                }
            }
            return px > 0 && py > 0 && px < 2 * b * wide && py < 2 * b * high;
        }

        private void fill(int i0, int j0) {
            List<int[]> open = new ArrayList<>();
            part[j0][i0] = parts;
            open.add(new int[] {i0, j0});
            while (!open.isEmpty()) {
                int[] at = open.remove(open.size() - 1);
                for (int side = 0; side < 4; side++) {
                    int i = at[0] + DX[side];
                    int j = at[1] + DY[side];
                    if (j >= 0 && j < part.length && i >= 0 && i < part[j].length && part[j][i] == 0) {
                        part[j][i] = parts;
                        open.add(new int[] {i, j});
                    }
                }
            }
        }

        /** By b * b * 4; of all parts, if which is 0. */
        long area(int which) {
            long sum = 0;
            for (int j = 1; j < part.length; j += 2) {
                for (int i = 1; i < part[j].length; i += 2) {
                    if (part[j][i] > 0 && (which == 0 || part[j][i] == which)) {
                        sum += (xs[i / 2 + 1] - xs[i / 2]) * (ys[j / 2 + 1] - ys[j / 2]);
                    }
                }
            }
            return sum;
        }

        /** Some place of a part, well within it. */
        long[] placeIn(int which) {
            for (int j = 1; j < part.length; j += 2) {
                for (int i = 1; i < part[j].length; i += 2) {
                    if (part[j][i] == which) {
                        return new long[] {spot(xs, i), spot(ys, j)};
                    }
                }
            }
            throw new IllegalStateException("a part without an area");
        }

        /** The part in which a place lies, by lengths of this object's own grain. */
        int partAt(long px, long py) {
            int i = indexOf(xs, px);
            int j = indexOf(ys, py);
            return i < 0 || j < 0 ? -1 : part[j][i];
        }

        private int indexOf(long[] cuts, long p) {
            for (int i = 0; i < cuts.length; i++) {
                if (cuts[i] == p) {
                    return 2 * i;
                }
                if (i + 1 < cuts.length && cuts[i] < p && p < cuts[i + 1]) {
                    return 2 * i + 1;
                }
            }
            return -1;
        }
    }

    // ---- events

    private long grain() {
        return 4L * (speeds[0] + speeds[2]) * (speeds[1] + speeds[3]);
    }

    /** All times, by the grain, at which two rims can meet, some between them, one beyond, and 0. */
    private List<Long> meetings() {
        TreeSet<Long> set = new TreeSet<>();
        for (int i = 0; i <= 2 * wide + 1; i++) {
            set.add(grain() / 2 / (speeds[1] + speeds[3]) * i);
        }
        for (int i = 0; i <= 2 * high + 1; i++) {
            set.add(grain() / 2 / (speeds[0] + speeds[2]) * i);
        }
        return new ArrayList<>(set);
    }

    /** Each: T above, below (in lowest terms), how many end, split, are behind it. */
    List<long[]> events() {
        List<long[]> events = new ArrayList<>();
        List<Long> times = meetings();
        long b = grain();
        for (int k = 1; k + 1 < times.size(); k++) {
            long t = times.get(k);
            Left ahead = new Left((times.get(k - 1) + t) / 2, b);
            Left behind = new Left((t + times.get(k + 1)) / 2, b);
            int[] held = new int[ahead.parts + 1];
            for (int p = 1; p <= behind.parts; p++) {
                long[] place = behind.placeIn(p);
                held[ahead.partAt(place[0], place[1])]++;
            }
            int ended = 0;
            int split = 0;
            for (int p = 1; p <= ahead.parts; p++) {
                ended += held[p] == 0 ? 1 : 0;
                split += held[p] > 1 ? 1 : 0;
            }
            if (ended + split > 0) {
                long g = gcd(t, b);
                events.add(new long[] {t / g, b / g, ended, split, behind.parts});
            }
        }
        return events;
    }

    /** In lowest terms. */
    long[] under() {
        List<Long> times = meetings();
        long b = grain();
        long sum = 0;
        for (int k = 0; k + 1 < times.size(); k++) {
            long from = times.get(k);
            long to = times.get(k + 1);
            sum += (to - from) * (new Left(from, b).area(0) + 4 * new Left((from + to) / 2, b).area(0)
                    + new Left(to, b).area(0));
        }
        long by = 24 * b * b * b;
        long g = gcd(sum, by);
        return new long[] {sum / g, by / g};
    }

    static long gcd(long a, long b) {
        return b == 0 ? a : gcd(b, a % b);
    }
}
