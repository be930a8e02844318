import java.util.List;
import java.util.Random;

/** Many houses, each answer held against the plain reading of the document's terms. */
public final class PlainTest {
    public static void main(String[] args) {
        Random random = new Random(20261118);
        for (int run = 0; run < 160; run++) {
            int most = run % 8 == 0 ? 14 : 7;
            int wide = 1 + random.nextInt(most);
            int high = 1 + random.nextInt(Math.min(most, 10));
            one(random, wide, high, run);
        }
        one(random, 14, 10, 1);
        one(random, 14, 10, 2);
        Check.end();
    }

    private static void one(Random random, int wide, int high, int run) {
        boolean[][] inside = new boolean[high][wide];
        int share = new int[] {4, 7, 8, 9, 10}[random.nextInt(5)];
        for (boolean[] line : inside) {
            for (int x = 0; x < wide; x++) {
                line[x] = random.nextInt(10) < share;
            }
        }
        inside[random.nextInt(high)][random.nextInt(wide)] = true;
        int[] speeds = new int[4];
        int fastest = new int[] {1, 2, 3, 9}[random.nextInt(4)];
        for (int side = 0; side < 4; side++) {
            speeds[side] = 1 + random.nextInt(fastest);
        }
        Plain plain = new Plain(inside, speeds);
        Fresh roofs = new Fresh(textOf(plain));
        walls(plain, roofs);
        points(plain, roofs);
        left(plain, roofs, random);
        events(plain, roofs);
        under(plain, roofs, random, run);
    }

    static String textOf(Plain plain) {
        StringBuilder text = new StringBuilder("house ");
        for (int y = 0; y < plain.high; y++) {
            text.append(y == 0 ? "" : "/");
            for (int x = 0; x < plain.wide; x++) {
                text.append(plain.inside[y][x] ? 'x' : 'o');
            }
        }
        text.append(";speed ");
        for (int side = 0; side < 4; side++) {
            text.append(side == 0 ? "" : ",").append(plain.speeds[side]);
        }
        return text.toString();
    }

    private static void walls(Plain plain, Fresh roofs) {
        List<int[]> walls = plain.walls();
        Check.eq("about(3)", roofs.get().about(3), walls.size());
        int[] rims = new int[4];
        for (int i = 0; i < walls.size(); i++) {
            for (int what = 0; what < 4; what++) {
                Check.eq("wall", roofs.get().wall(i, what), walls.get(i)[what]);
            }
            rims[walls.get(i)[0]] += walls.get(i)[3];
        }
        for (int side = 0; side < 4; side++) {
            Check.eq("rim", roofs.get().rim(side), rims[side]);
            for (int y = 0; y < plain.high; y++) {
                for (int x = 0; x < plain.wide; x++) {
                    Check.eq("wallOf", roofs.get().wallOf(x, y, side), plain.inside[y][x] ? plain.wallOf(x, y, side) : -1);
                }
            }
        }
    }

    private static void points(Plain plain, Fresh roofs) {
        String text = textOf(plain);
        int[] faces = new int[16];
        int[] catches = new int[plain.walls().size()];
        long best = -1;
        int bestX = 0;
        int bestY = 0;
        int third = 0;
        for (int py = 0; py <= 4 * plain.high; py++) {
            for (int px = 0; px <= 4 * plain.wide; px++) {
                long h = plain.height(px, py);
                long g = Plain.gcd(h, 10080);
                String at = text + " at " + px + ", " + py;
                Check.eq("height " + at, roofs.get().height(px, py, 0), h / g);
                Check.eq("height " + at, roofs.get().height(px, py, 1), 10080 / g);
                int set = plain.slopes(px, py);
                Check.eq("slopes " + at, roofs.get().slopes(px, py), set);
                int wall = plain.drop(px, py);
                Check.eq("drop " + at, roofs.get().drop(px, py), wall);
                faces[set]++;
                if (wall >= 0) {
                    catches[wall]++;
                }
                if (h > best) {
                    best = h;
                    bestX = px;
                    bestY = py;
                }
                third += h > 3360 ? 1 : 0;
            }
        }
        for (int set = 0; set < 16; set++) {
            Check.eq("faces " + text, roofs.get().faces(set), faces[set]);
        }
        for (int i = 0; i < catches.length; i++) {
            Check.eq("catches " + text, roofs.get().catches(i), catches[i]);
        }
        Check.eq("highest(0) " + text, roofs.get().highest(0), bestX);
        Check.eq("highest(1) " + text, roofs.get().highest(1), bestY);
        Check.eq("points(1, 3) " + text, roofs.get().points(1, 3), third);
        Check.eq("points(3333, 9999) " + text, roofs.get().points(3333, 9999), third);
    }

    private static void left(Plain plain, Fresh roofs, Random random) {
        leftAt(plain, roofs, 0, 1 + random.nextInt(9999));
        leftAt(plain, roofs, 1, plain.speeds[0] + plain.speeds[2]);
        leftAt(plain, roofs, 1, plain.speeds[1] + plain.speeds[3]);
        leftAt(plain, roofs, 2, plain.speeds[1] + plain.speeds[3]);
        for (int k = 0; k < 6; k++) {
            leftAt(plain, roofs, random.nextInt(900), 1 + random.nextInt(9999));
        }
        leftAt(plain, roofs, 9999, 1);
    }

    private static void leftAt(Plain plain, Fresh roofs, int a, int b) {
        String at = textOf(plain) + " at " + a + " by " + b;
        Plain.Left left = plain.new Left(a, b);
        Check.eq("pieces " + at, roofs.get().pieces(a, b), left.parts);
        long by = 4L * b * b;
        long all = left.area(0);
        Check.eq("area " + at, roofs.get().area(a, b, 0), all / Plain.gcd(all, by));
        Check.eq("area " + at, roofs.get().area(a, b, 1), by / Plain.gcd(all, by));
        for (int p = 1; p <= left.parts; p++) {
            long one = left.area(p);
            Check.eq("piece " + at, roofs.get().piece(a, b, p - 1, 0), one / Plain.gcd(one, by));
            Check.eq("piece " + at, roofs.get().piece(a, b, p - 1, 1), by / Plain.gcd(one, by));
        }
        EaveRoofs x = roofs.get();
        Check.refused("piece " + at, x, x.piece(a, b, left.parts, 0), 1);
    }

    private static void events(Plain plain, Fresh roofs) {
        String text = textOf(plain);
        List<long[]> events = plain.events();
        Check.eq("about(5) " + text, roofs.get().about(5), events.size());
        for (int k = 0; k < events.size(); k++) {
            for (int what = 0; what < 5; what++) {
                Check.eq("event " + k + " " + text, roofs.get().event(k, what), events.get(k)[what]);
            }
        }
        EaveRoofs x = roofs.get();
        Check.taken("event beyond " + text, x, x.event(events.size(), 0), -2);
        long[] last = events.get(events.size() - 1);
        Check.eq("top(0) " + text, roofs.get().top(0), last[0]);
        Check.eq("top(1) " + text, roofs.get().top(1), last[1]);
        Check.eq("about(6) " + text, roofs.get().about(6), plain.new Left(0, 1).parts);
    }

    private static void under(Plain plain, Fresh roofs, Random random, int run) {
        String text = textOf(plain);
        long[] sum = plain.under();
        Check.eq("under(0) " + text, roofs.get().under(0), sum[0]);
        Check.eq("under(1) " + text, roofs.get().under(1), sum[1]);
        int x = random.nextInt(plain.wide);
        int y = random.nextInt(plain.high);
        if (roofs.get().about(2) > 1 || !plain.inside[y][x]) {
            plain.inside[y][x] = !plain.inside[y][x];
            long[] then = plain.under();
            Check.eq("would " + text, roofs.get().would(x, y, 0), then[0]);
            Check.eq("would " + text, roofs.get().would(x, y, 1), then[1]);
            plain.inside[y][x] = !plain.inside[y][x];
            Check.eq("would changes nothing " + text, roofs.get().under(0), sum[0]);
            Check.eq("would is no act " + text, roofs.get().about(7), 0);
        }
    }
}
