import java.util.ArrayList;
import java.util.List;
import java.util.Random;

/**
 * Stray calls of all kinds, in any order: none throws but row(), a refused one changes nothing but
 * trouble() and where() (by 4 the tape and fault()), and a longer memory than the class's own tells
 * what undo() has to bring back.
 */
public final class StrayTest {
    private static final int[] ODD = {Integer.MIN_VALUE, Integer.MAX_VALUE, -1, 0, 1, 2, 9, 10, 14, 56, 57, 400, 9999};
    private static final String[] TEXTS = {
        "house x", "house xx/ox;speed 1,2,3,4;mark 3,3;mark 8,8", "house xxxxxxx/xxxoxxx/xoxxxox/xxxxxxx;mark 1,1",
        "house xxoxx/xxxxx/xxoxx", "house o", "house x;house x", "mark", "house xx;speed 9,9,9,9;mark 4,2;mark 0,0",
        "house xxxxxxxxxxxxxx/xoxoxoxoxoxoxo/xxxxxxxxxxxxxx/ooooooooooooox/xxxxxxxxxxxxxx/xxxxxxxxxxxxxx"};

    public static void main(String[] args) {
        Random random = new Random(7);
        for (int run = 0; run < 400; run++) {
            one(random);
        }
        Check.end();
    }

    private static void one(Random random) {
        EaveRoofs x = new EaveRoofs();
        List<String> past = new ArrayList<>();
        String now = state(x);
        for (int call = 0; call < 60; call++) {
            int kind = random.nextInt(35);
            String before = now;
            int held = x.bytes();
            int fault = x.fault();
            int trouble = x.trouble();
            long got = call(x, random, kind);
            int after = x.trouble();
            int place = x.where();
            boolean refusable = kind > 1 && kind < 32;
            Check.yes("trouble() " + after, after == 0 || after == 1 || after == 2 || after == 4 || after == 5);
            Check.yes("where()", place == -1 ^ after == 4);
            Check.yes("refused: NONE, kind " + kind, !refusable || after == 0 || got == -1);
            Check.yes("not refusable: trouble() stays, kind " + kind, refusable || kind == 0 || after == trouble);
            Check.yes("tape stays", kind <= 2 || x.bytes() == held);
            Check.yes("fault() stays", kind == 0 || kind == 2 || x.fault() == fault);
            now = state(x);
            if (kind == 31 && after == 0) {
                String due = past.remove(past.size() - 1);
                Check.yes("undone: " + now + " due " + due, now.equals(due));
            } else if (kind >= 27 && kind <= 30 && after == 0) {
                past.add(before);
            } else if ((kind == 0 || kind == 2) && after == 0) {
                past.clear();
            } else {
                Check.yes("kind " + kind + " changed the house: " + before + " to " + now, before.equals(now));
            }
            while (past.size() > 10) {
                past.remove(0);
            }
            if (!now.isEmpty()) {
                Check.eq("acts to undo", x.about(7), past.size());
            }
        }
        if (!now.isEmpty()) {
            String told = measures(x);
            Check.yes("as told afresh: " + now, told.equals(measures(Check.house(now))));
        }
    }

    /** Rows, speeds, marks. */
    private static String state(EaveRoofs x) {
        return Check.row(x, 0) == -9 ? "" : textOf(x);
    }

    /** The text that tells the house as it stands. */
    private static String textOf(EaveRoofs x) {
        StringBuilder told = new StringBuilder("house ");
        for (int y = 0; Check.row(x, y) != -9; y++) {
            told.append(y == 0 ? "" : "/");
            for (int i = 0; i < x.about(0); i++) {
                told.append((Check.row(x, y) >> i & 1) == 1 ? 'x' : 'o');
            }
        }
        for (int side = 0; side < 4; side++) {
            told.append(side == 0 ? ";speed " : ",").append(x.speed(side));
        }
        for (int i = 0; i < x.about(4); i++) {
            told.append(";mark ").append(x.mark(i, 0)).append(',').append(x.mark(i, 1));
        }
        return told.toString();
    }

    /** All that can be asked of points, walls, what is left; what an older house left over would show. */
    private static String measures(EaveRoofs x) {
        StringBuilder told = new StringBuilder();
        for (int i = 0; i < 16; i++) {
            told.append(x.faces(i)).append(' ').append(x.catches(i)).append(' ').append(x.wall(i, i % 4)).append(' ');
            told.append(x.event(i, i % 5)).append(' ').append(x.piece(i, 30, i / 8, 0)).append(' ');
            told.append(x.points(i, 20)).append(' ').append(x.pieces(i, 20)).append(' ').append(x.area(i, 20, 0));
            told.append(' ').append(x.drop(i, 2)).append(' ').append(x.slopes(2, i)).append(' ');
            told.append(x.height(i, i, 0)).append(' ').append(x.ranked(i)).append('\n');
        }
        told.append(x.top(0)).append(' ').append(x.highest(0)).append(' ').append(x.rim(1)).append(' ');
        return told.append(x.under(0)).append(' ').append(x.would(0, 0, 0)).append(x.higher(0, 1)).toString();
    }

    private static int odd(Random random) {
        return random.nextInt(4) == 0 ? ODD[random.nextInt(ODD.length)] : random.nextInt(8);
    }

    private static long call(EaveRoofs x, Random r, int kind) {
        int a = odd(r);
        int b = odd(r);
        int c = r.nextInt(6) == 0 ? odd(r) : r.nextInt(2);
        switch (kind) {
            case 0: return Check.tell(x, TEXTS[r.nextInt(TEXTS.length)]);
            case 1: return x.feed(r.nextInt(), 0x686f7573, 0x65207878, r.nextInt(), r.nextInt());
            case 2: return x.text(r.nextInt(3) == 0 ? odd(r) : 20);
            case 3: return x.about(a);
            case 4: return x.cell(a, b);
            case 5: return x.speed(a);
            case 6: return x.wall(a, b);
            case 7: return x.wallOf(a, b, odd(r));
            case 8: return x.mark(a, b);
            case 9: return x.height(a, b, c);
            case 10: return x.slopes(a, b);
            case 11: return x.drop(a, b);
            case 12: return x.catches(a);
            case 13: return x.faces(a);
            case 14: return x.rim(a);
            case 15: return x.highest(a);
            case 16: return x.ranked(a);
            case 17: return x.points(a, b);
            case 18: return x.pieces(a, b);
            case 19: return x.area(a, b, c);
            case 20: return x.piece(a, b, odd(r), c);
            case 21: return x.event(a, b);
            case 22: return x.top(a);
            case 23: return x.higher(a, b);
            case 24: return x.under(c);
            case 25: return x.would(a, b, c);
            case 26: return x.about(r.nextInt(8));
            case 27: return x.set(a, b, r.nextBoolean());
            case 28: return x.runs(a, b);
            case 29: return x.turn(a) ? 1 : -1;
            case 30: return x.grow();
            case 31: return x.undo();
            case 32: return Check.row(x, a);
            case 33: return x.fault();
            default: return x.where();
        }
    }
}
