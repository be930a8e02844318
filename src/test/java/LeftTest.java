/** Promises 21 to 25, 27 and 28: what is left as time goes. */
public final class LeftTest {
    public static void main(String[] args) {
        noHouse();
        pieces();
        areas();
        pieceByPiece();
        events();
        splitInThree();
        tops();
        unders();
        woulds();
        wrongTimes();
        Check.end();
    }

    private static void noHouse() {
        EaveRoofs x = new EaveRoofs();
        Check.refused("pieces", x, x.pieces(-1, 0), 1);
        Check.refused("area", x, x.area(-1, 0, 0), 1);
        Check.refused("piece", x, x.piece(-1, 0, 0, 0), 1);
        Check.refused("event", x, x.event(0, 0), 1);
        Check.refused("top", x, x.top(0), 1);
        Check.refused("under", x, x.under(0), 1);
        Check.refused("would", x, x.would(0, 0, 0), 1);
    }

    private static void pieces() {
        EaveRoofs x = Check.house("house xxo/oox/oxx");
        Check.taken("by a corner alone", x, x.pieces(0, 1), 2);
        Check.taken("later", x, x.pieces(1, 3), 2);
        Check.taken("ended", x, x.pieces(1, 2), 0);
        Check.taken("nearly", x, x.pieces(4999, 9999), 2);
        EaveRoofs y = Check.house("house xxxxx/xxoxx/xxxxx/xxoxx/xxxxx");
        Check.taken("with yards", y, y.pieces(0, 1), 1);
        Check.taken("necks gone", y, y.pieces(1, 2), 2);
    }

    private static void areas() {
        EaveRoofs x = Check.house("house xxx/xox/xxx;speed 1,2,3,4");
        fraction("whole", x, 0, 1, 8, 1);
        fraction("whole", x, 0, 77, 8, 1);
        // (3 - 6t) (3 - 4t) less the yard's (1 + 6t) (1 + 4t): 8 - 40t.
        fraction("1 by 12", x, 1, 12, 14, 3);
        fraction("gone", x, 1, 4, 0, 1);
        fraction("long gone", x, 9999, 1, 0, 1);
        fraction("least time", x, 1, 9999, 8L * 9999 - 40, 9999);
        fraction("long numbers", x, 1499, 9998, 8L * 9998 - 40 * 1499, 9998);
        Check.refused("area(0, 1, 2)", x, x.area(0, 1, 2), 1);
        Check.refused("area(-1, 1, 2)", x, x.area(-1, 1, 2), 1);
        Check.refused("area(-1, 1, 1)", x, x.area(-1, 1, 1), 2);
    }

    private static void fraction(String what, EaveRoofs x, int a, int b, long above, long below) {
        long common = Plain.gcd(above, below);
        Check.taken(what, x, x.area(a, b, 0), above / common);
        Check.taken(what, x, x.area(a, b, 1), below / common);
    }

    private static void pieceByPiece() {
        // The second comes as far north as the first, but lies farther east; the third is lower.
        EaveRoofs x = Check.house("house xooxxoo/ooooxoo/oxxoooo/xxxxoox");
        long[] want = {1, 3, 6, 1};
        for (int i = 0; i < want.length; i++) {
            Check.taken("piece " + i, x, x.piece(0, 1, i, 0), want[i]);
            Check.taken("piece " + i, x, x.piece(0, 1, i, 1), 1);
        }
        Check.refused("piece 4", x, x.piece(0, 1, 4, 0), 1);
        Check.taken("a quarter", x, x.piece(1, 4, 0, 0), 1);
        Check.taken("a quarter", x, x.piece(1, 4, 0, 1), 4);
        Check.refused("piece -1", x, x.piece(-1, 0, -1, 0), 1);
        Check.refused("what 2", x, x.piece(-1, 0, 0, 2), 1);
        Check.refused("a -1", x, x.piece(-1, 1, 99, 0), 2);
        Check.refused("gone", x, x.piece(9999, 1, 0, 0), 1);
        // A part that winds: its west end lies lower than another's.
        EaveRoofs y = Check.house("house ooxox/xoxox/xxxox");
        Check.taken("winding", y, y.piece(0, 1, 0, 0), 6);
        Check.taken("straight", y, y.piece(0, 1, 1, 0), 3);
    }

    private static void events() {
        EaveRoofs x = Check.house("house xxxxoxx/xxxxxxx/xxxxoxx/xxxxooo");
        int[][] want = {{1, 2, 0, 1, 2}, {1, 1, 1, 0, 1}, {2, 1, 1, 0, 0}};
        Check.eq("about(5)", x.about(5), want.length);
        for (int k = 0; k < want.length; k++) {
            for (int what = 0; what < 5; what++) {
                Check.taken("event(" + k + ", " + what + ")", x, x.event(k, what), want[k][what]);
            }
        }
        Check.taken("event(3, 0)", x, x.event(3, 0), -2);
        Check.taken("event(max, 4)", x, x.event(Integer.MAX_VALUE, 4), -2);
        Check.refused("event(-1, 0)", x, x.event(-1, 0), 1);
        Check.refused("event(0, 5)", x, x.event(0, 5), 1);
        Check.refused("event(9, -1)", x, x.event(9, -1), 1);
        x.set(4, 1, false);
        Check.eq("no split any more", x.about(5), 2);
        x.undo();
        Check.eq("undone", x.about(5), 3);
        // Times in lowest terms; both ways at once.
        EaveRoofs y = Check.house("house xx/xx;speed 3,3,3,3");
        Check.taken("1 by 3", y, y.event(0, 0), 1);
        Check.taken("1 by 3", y, y.event(0, 1), 3);
        Check.taken("one event", y, y.about(5), 1);
    }

    /** Two pieces, of which one falls into three just as the other ends. */
    private static void splitInThree() {
        EaveRoofs x = Check.house("house xxoxxoxxox/xxxxxxxxoo/xxoxxoxxoo");
        Check.taken("at 0", x, x.about(6), 2);
        Check.taken("T", x, x.event(0, 0), 1);
        Check.taken("T", x, x.event(0, 1), 2);
        Check.taken("end", x, x.event(0, 2), 1);
        Check.taken("split", x, x.event(0, 3), 1);
        Check.taken("behind", x, x.event(0, 4), 3);
        Check.taken("then end", x, x.event(1, 2), 3);
    }

    private static void tops() {
        EaveRoofs x = Check.house("house xxx/xxx;speed 1,2,4,3");
        // Up and down: 2 cells by 5; across: 3 by 5.
        Check.taken("top(0)", x, x.top(0), 2);
        Check.taken("top(1)", x, x.top(1), 5);
        Check.refused("top(2)", x, x.top(2), 1);
        Check.refused("top(-1)", x, x.top(-1), 1);
        x.runs(2, 9);
        Check.taken("top(1) behind an act", x, x.top(1), 5);
        Check.taken("top(0) behind an act", x, x.top(0), 1);
    }

    private static void unders() {
        EaveRoofs x = Check.house("house x");
        Check.taken("under(0)", x, x.under(0), 1);
        Check.taken("under(1)", x, x.under(1), 6);
        // A roof of all speeds 1 over 14 by 10: the roof's body is 10 * 10 * (3 * 14 - 10) / 12.
        EaveRoofs y = Check.house("house xxxxxxxxxxxxxx/xxxxxxxxxxxxxx/xxxxxxxxxxxxxx/xxxxxxxxxxxxxx"
                + "/xxxxxxxxxxxxxx/xxxxxxxxxxxxxx/xxxxxxxxxxxxxx/xxxxxxxxxxxxxx/xxxxxxxxxxxxxx/xxxxxxxxxxxxxx");
        Check.taken("the greatest", y, y.under(0), 800);
        Check.taken("the greatest", y, y.under(1), 3);
        y.runs(0, 8);
        y.runs(1, 9);
        y.runs(2, 9);
        y.runs(3, 9);
        // Rectangle W by H that loses p across, q down by time: T = min(W / p, H / q).
        // 14/18 > 10/17: W H T - (W q + H p) T T / 2 + p q T T T / 3 at T = 10 / 17.
        long above = 6L * 140 * 10 * 289 - 3L * (14 * 17 + 10 * 18) * 100 * 17 + 2L * 18 * 17 * 1000;
        long below = 6L * 17 * 289;
        long common = Plain.gcd(above, below);
        Check.taken("coarse", y, y.under(0), above / common);
        Check.taken("coarse", y, y.under(1), below / common);
        Check.refused("under(2)", y, y.under(2), 1);
        Check.refused("under(-1)", y, y.under(-1), 1);
    }

    private static void woulds() {
        EaveRoofs x = Check.house("house xo/oo");
        Check.taken("two", x, x.would(1, 0, 0), 5);
        Check.taken("two", x, x.would(1, 0, 1), 12);
        Check.taken("apart", x, x.would(1, 1, 0), 1);
        Check.taken("apart", x, x.would(1, 1, 1), 3);
        Check.refused("the last", x, x.would(0, 0, 0), 5);
        Check.refused("the last, what", x, x.would(0, 0, 2), 1);
        Check.refused("beyond", x, x.would(2, 0, 0), 1);
        Check.refused("beyond", x, x.would(0, -1, 0), 1);
        Check.refused("what", x, x.would(1, 0, -1), 1);
        Check.eq("nothing changed", Check.row(x, 0), 1);
        Check.eq("no act", x.about(7), 0);
        Check.eq("under", x.under(1), 6);
    }

    private static void wrongTimes() {
        EaveRoofs x = Check.house("house xx");
        int[][] bad = {{-1, 1}, {10000, 1}, {0, 0}, {0, -1}, {0, 10000}, {Integer.MAX_VALUE, Integer.MAX_VALUE}};
        for (int[] t : bad) {
            Check.refused("pieces", x, x.pieces(t[0], t[1]), 2);
            Check.refused("area", x, x.area(t[0], t[1], 0), 2);
            Check.refused("piece", x, x.piece(t[0], t[1], 0, 0), 2);
        }
        Check.taken("edges", x, x.pieces(9999, 9999), 0);
        Check.taken("edges", x, x.pieces(0, 9999), 1);
    }
}
