/** Promise 27, under: "UNDER in lowest terms: above (what 0), below (1). NONE: 1 (what, too)." */
public final class Promise27UnderTest {
    public static void main(String[] args) {
        aRectangle();
        severalPiecesTogether();
        throughASplit();
        piecesOfSeveralLengths();
        armsThatWearOffEarlier();
        theLeast();
        theMost();
        behindAnAct();
        noSuchWhat();
        noHouse();
        Check.end();
    }

    private static void fraction(String name, EaveRoofs x, long above, long below) {
        Check.taken(name + ": under(0)", x, x.under(0), above);
        Check.taken(name + ": under(1)", x, x.under(1), below);
    }

    /** W H T - (W q + H p) T T / 2 + p q T T T / 3, by T = min(W / p, H / q). */
    private static void aRectangle() {
        fraction("one cell", Check.house("house x"), 1, 6);
        fraction("one cell, speeds", Check.house("house x;speed 1,2,3,4"), 7, 108);
        fraction("eight", Check.house("house xxxx/xxxx"), 10, 3);
        // T = 10 / 17 of 14 by 10 that loses 18 and 17.
        long above = 6L * 140 * 10 * 289 - 3L * (14 * 17 + 10 * 18) * 100 * 17 + 2L * 18 * 17 * 1000;
        long below = 6L * 17 * 289;
        long common = Plain.gcd(above, below);
        EaveRoofs x = Check.house(Check.full(14, 10) + ";speed 8,9,9,9");
        fraction("coarse", x, above / common, below / common);
    }

    private static void severalPiecesTogether() {
        fraction("by a corner", Check.house("house xo/ox"), 1, 3);
        fraction("chequered", Check.house(Check.chequered(14, 10)), 35, 3);
    }

    /**
     * Two squares of 2 by 2 that share a cell: each has 8 by 6 (2 * 2 * 2 / 6), and what both have is
     * counted once, while it lasts: less 1 by 6.
     */
    private static void throughASplit() {
        fraction("two squares", Check.house("house xxo/xxx/oxx"), 5, 2);
    }

    /** As they end one by one: 2 by 27, 7 by 27, 1 by 2. */
    private static void piecesOfSeveralLengths() {
        fraction("1, 2, 3 across", Check.house("house xoxxoxxx;speed 1,3,1,3"), 5, 6);
        fraction("1, 2, 3 down", Check.house("house x/o/x/x/o/x/x/x;speed 3,1,3,1"), 5, 6);
        // Of 1 by 3, 2 by 3 cells that lose 2 and 3: 5 by 8, 2.
        fraction("down ahead of across", Check.house("house xoxx/xoxx/xoxx;speed 1,1,2,1"), 21, 8);
        fraction("across ahead of down", Check.house("house xxx/ooo/xxx/xxx;speed 1,1,1,2"), 21, 8);
    }

    /** 4 - 16t + 8tt up to 1/4, where the arms are gone; then 2 (1 - 2t) (1 - 2t) up to 1/2. */
    private static void armsThatWearOffEarlier() {
        fraction("down", Check.house("house xxx/oxo;speed 2,1,2,1"), 7, 12);
        fraction("across", Check.house("house xo/xx/xo;speed 1,2,1,2"), 7, 12);
        fraction("stairs", Check.house("house xxx/xxo/xoo"), 11, 6);
    }

    private static void theLeast() {
        fraction("one cell, fast", Check.house("house x;speed 9,9,9,9"), 1, 54);
    }

    private static void theMost() {
        fraction("full", Check.house(Check.full(14, 10)), 800, 3);
        fraction("full, fast", Check.house(Check.full(14, 10) + ";speed 9,9,9,9"), 800, 27);
    }

    private static void behindAnAct() {
        EaveRoofs x = Check.house("house xx");
        fraction("two", x, 5, 12);
        x.set(0, 0, false);
        fraction("one", x, 1, 6);
        x.undo();
        fraction("undone", x, 5, 12);
    }

    private static void noSuchWhat() {
        EaveRoofs x = Check.house("house x");
        int[] wrong = {-1, 2, Integer.MIN_VALUE, Integer.MAX_VALUE};
        for (int what : wrong) {
            Check.refused("under(" + what + ")", x, x.under(what), 1);
        }
    }

    private static void noHouse() {
        EaveRoofs x = new EaveRoofs();
        Check.refused("under(0)", x, x.under(0), 1);
        Check.refused("under(1)", x, x.under(1), 1);
    }
}
