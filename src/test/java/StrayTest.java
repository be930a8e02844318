import java.util.ArrayList;
import java.util.List;
import java.util.Random;

/**
 * Stray calls of all kinds, in any order: none throws but row(), a refused one changes nothing but
 * trouble() and where() (by 4 the tape and fault()), and a longer memory than the class's own tells
 * what undo() has to bring back.
 */
public final class StrayTest {
    private static final int[] ODD = {Integer.MIN_VALUE, Integer.MAX_VALUE, -1, 0, 1, 2, 9, 10, 14, 56, 57, 400, 9999};
    // Of few rows and marks, so that telling a house takes few of an object's 512 calls.
    private static final String[] TEXTS = {
        "house x", "house xx/ox;speed 1,2,3,4;mark 3,3", "house xxxxxxx/xxxoxxx/xoxxxox;mark 1,1",
        "house xxoxx/xxxxx/xxoxx", "house o", "house x;house x", "mark", "house xx;speed 9,9,9,9;mark 4,2;mark 0,0",
        "house xxxxxxxxxxxxxx/xoxoxoxoxoxoxo/xxxxxxxxxxxxxx"};
    private static final int CALLS = 18;

    public static void main(String[] args) {
        Random random = new Random(7);
        for (int run = 0; run < 1200; run++) {
            one(random, run % 3 == 0);
        }
        Check.end();
    }

    private static void one(Random random, boolean acting) {
        EaveRoofs x = new EaveRoofs();
        List<String> past = new ArrayList<>();
        String now = "";
        for (int call = 0; call < CALLS; call++) {
            int kind = random.nextInt(35);
            if (acting) {
                kind = call == 0 ? 0 : random.nextInt(6) == 0 ? 31 : 27 + random.nextInt(4);
            }
            String before = now;
            int held = x.bytes();
            int fault = x.fault();
            int trouble = x.trouble();
            long got = call(x, random, kind);
            int after = x.trouble();
            int place = x.where();
            boolean refusable = kind > 1 && kind < 32;
            Check.yes("trouble() " + after, after == 0 || after == 1 || after == 2 || after == 4 || after == 5);
            Check.yes("where()", place == -1 ^ after == 4);
            Check.yes("refused: NONE, kind " + kind, !refusable || after == 0 || got == -1);
            Check.yes("not refusable: trouble() stays, kind " + kind, refusable || kind == 0 || after == trouble);
            Check.yes("tape stays", kind <= 2 || x.bytes() == held);
            Check.yes("fault() stays", kind == 0 || kind == 2 || x.fault() == fault);
            now = Told.house(x);
            if (kind == 31 && after == 0) {
                Check.same("undone", now, past.remove(past.size() - 1));
            } else if (kind >= 27 && kind <= 30 && after == 0) {
                past.add(before);
            } else if ((kind == 0 || kind == 2) && after == 0) {
                past.clear();
            } else {
                Check.same("kind " + kind, now, before);
            }
            while (past.size() > 10) {
                past.remove(0);
            }
            if (!now.isEmpty()) {
                Check.eq("acts to undo", x.about(7), past.size());
            }
        }
        if (!now.isEmpty()) {
            Check.same("as told afresh: " + now, Told.measures(x), Told.measures(Check.house(now)));
        }
    }

    private static int odd(Random random) {
        return random.nextInt(4) == 0 ? ODD[random.nextInt(ODD.length)] : random.nextInt(8);
    }

    private static long call(EaveRoofs x, Random r, int kind) {
        int a = odd(r);
        int b = odd(r);
        int c = r.nextInt(6) == 0 ? odd(r) : r.nextInt(2);
        switch (kind) {
            case 0: return Check.tell(x, TEXTS[r.nextInt(TEXTS.length)]);
            case 1: return x.feed(r.nextInt(), 0x686f7573, 0x65207878, r.nextInt(), r.nextInt());
            case 2: return x.text(r.nextInt(3) == 0 ? odd(r) : 20);
            case 3: return x.about(a);
            case 4: return x.cell(a, b);
            case 5: return x.speed(a);
            case 6: return x.wall(a, b);
            case 7: return x.wallOf(a, b, odd(r));
            case 8: return x.mark(a, b);
            case 9: return x.height(a, b, c);
            case 10: return x.slopes(a, b);
            case 11: return x.drop(a, b);
            case 12: return x.catches(a);
            case 13: return x.faces(a);
            case 14: return x.rim(a);
            case 15: return x.highest(a);
            case 16: return x.ranked(a);
            case 17: return x.points(a, b);
            case 18: return x.pieces(a, b);
            case 19: return x.area(a, b, c);
            case 20: return x.piece(a, b, odd(r), c);
            case 21: return x.event(a, b);
            case 22: return x.top(a);
            case 23: return x.higher(a, b);
            case 24: return x.under(c);
            case 25: return x.would(a, b, c);
            case 26: return x.about(r.nextInt(8));
            case 27: return x.set(a, b, r.nextBoolean());
            case 28: return x.runs(a, b);
            case 29: return x.turn(a) ? 1 : -1;
            case 30: return x.grow();
            case 31: return x.undo();
            case 32: return Check.row(x, a);
            case 33: return x.fault();
            default: return x.where();
        }
    }
}
