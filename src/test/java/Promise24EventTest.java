/**
 * Promise 24, event: "Of the k-th EVENT (0: the first) 0 T in lowest terms, above, 1 below, 2 how many
 * PIECES END, 3 how many SPLIT, 4 how many there are just behind it; -2 there are not so many. NONE: 1
 * (k below 0, what, too)."
 */
public final class Promise24EventTest {
    public static void main(String[] args) {
        oneEnds();
        oneSplits();
        endAndSplitAtOnce();
        othersStay();
        intoThree();
        severalEndAtOnce();
        timesThatAreNoEvents();
        bothWaysAtOnceIsOneEvent();
        acrossAndDownInExactOrder();
        manyEvents();
        lowestTerms();
        theFrameAtItsBounds();
        notSoMany();
        kBelowNought();
        noSuchWhat();
        behindAnAct();
        noHouse();
        Check.end();
    }

    private static void all(String name, EaveRoofs x, int[][] want) {
        Check.eq(name + ": about(5)", x.about(5), want.length);
        for (int k = 0; k < want.length; k++) {
            for (int what = 0; what < 5; what++) {
                Check.taken(name + ": event(" + k + ", " + what + ")", x, x.event(k, what), want[k][what]);
            }
        }
        for (int what = 0; what < 5; what++) {
            Check.taken(name + ": one more", x, x.event(want.length, what), -2);
        }
    }

    private static void oneEnds() {
        all("one cell", Check.house("house x"), new int[][] {{1, 2, 1, 0, 0}});
    }

    private static void oneSplits() {
        all("neck", Check.house("house xxxoxxx/xxxxxxx/xxxoxxx"), new int[][] {{1, 2, 0, 1, 2}, {3, 2, 2, 0, 0}});
        all("corner", Check.house("house xxo/xxx/oxx"), new int[][] {{1, 2, 0, 1, 2}, {1, 1, 2, 0, 0}});
    }

    private static void endAndSplitAtOnce() {
        all("with one apart", Check.house("house xxoxxoxxox/xxxxxxxxoo/xxoxxoxxoo"),
                new int[][] {{1, 2, 1, 1, 3}, {1, 1, 3, 0, 0}});
    }

    private static void othersStay() {
        all("one apart stays", Check.house("house xxoxxoxxx/xxxxxoxxx/xxoxxoxxx"),
                new int[][] {{1, 2, 0, 1, 3}, {1, 1, 2, 0, 1}, {3, 2, 1, 0, 0}});
    }

    private static void intoThree() {
        all("two necks", Check.house("house xxxxoxx/xxxxxxx/xxxxoxx/xxxxooo"),
                new int[][] {{1, 2, 0, 1, 2}, {1, 1, 1, 0, 1}, {2, 1, 1, 0, 0}});
        all("three", Check.house("house xxoxxoxx/xxxxxxxx/xxoxxoxx"), new int[][] {{1, 2, 0, 1, 3}, {1, 1, 3, 0, 0}});
    }

    private static void severalEndAtOnce() {
        all("chequered", Check.house(Check.chequered(14, 10)), new int[][] {{1, 2, 70, 0, 0}});
        all("two ahead of one", Check.house("house xoxoxxx/ooooxxx"), new int[][] {{1, 2, 2, 0, 1}, {1, 1, 1, 0, 0}});
    }

    /** Arms that wear off and yards that grow end and split nothing. */
    private static void timesThatAreNoEvents() {
        all("arm", Check.house("house xxxx/xxxo/xxxo"), new int[][] {{3, 2, 1, 0, 0}});
        // At 1/2 the yard opens to the east.
        all("yard", Check.house("house xxxxx/xxxxx/xxxox/xxxxx/xxxxx"), new int[][] {{3, 2, 1, 0, 0}});
        all("two splits", Check.house("house xxxxxxx/xxxoxxx/xxxxxxx/xxxoxxx/xxxxxxx"),
                new int[][] {{1, 2, 0, 1, 2}, {3, 2, 2, 0, 0}});
    }

    /** Worn off one way alone these would fall apart, but by the other way nothing is left at once. */
    private static void bothWaysAtOnceIsOneEvent() {
        int[][] end = {{1, 2, 1, 0, 0}};
        all("two posts", Check.house("house xox/xxx/xox"), end);
        all("two beams", Check.house("house xxx/oxo/xxx"), end);
        all("twice as fast across", Check.house("house xxxooxxx/xxxxxxxx/xxxooxxx;speed 1,2,1,2"),
                new int[][] {{1, 2, 0, 1, 2}, {3, 4, 2, 0, 0}});
        all("twice as fast down", Check.house("house xxx/xxx/xxx/oxo/oxo/xxx/xxx/xxx;speed 2,1,2,1"),
                new int[][] {{1, 2, 0, 1, 2}, {3, 4, 2, 0, 0}});
        all("both at once, fast across", Check.house("house xxox/xxxx/xxox;speed 1,2,1,2"),
                new int[][] {{1, 2, 1, 0, 0}});
    }

    private static void acrossAndDownInExactOrder() {
        all("across ahead", Check.house("house x;speed 1,1,1,2"), new int[][] {{1, 3, 1, 0, 0}});
        all("across ahead, long", Check.house("house xx;speed 1,1,1,2"), new int[][] {{1, 2, 1, 0, 0}});
        all("down ahead", Check.house("house x;speed 1,1,2,1"), new int[][] {{1, 3, 1, 0, 0}});
        all("down ahead, high", Check.house("house x/x;speed 1,1,2,1"), new int[][] {{1, 2, 1, 0, 0}});
        // Across 14 by 17, down 9 by 11: 154 and 153 by 187.
        all("a bit apart", Check.house("house xxxxxxxxxxxxxx" + "/xxxxxxxxxxxxxx".repeat(8) + ";speed 5,8,6,9"),
                new int[][] {{9, 11, 1, 0, 0}});
        all("a bit apart, higher", Check.house(Check.full(14, 10) + ";speed 5,8,6,9"),
                new int[][] {{14, 17, 1, 0, 0}});
    }

    private static void manyEvents() {
        EaveRoofs x = Check.house("house xxxxxxxxxoxxxx/oooooooooooooo/xxxxxxxxoxxxxx/oooooooooooooo/xxxxxxxoxxxxxx"
                + "/oooooooooooooo/xxxoxxoxoooooo/oooooooooooooo/xxxxxxxxxxxxxx/xxxxxxxxxxxxxx;speed 1,9,1,9");
        all("widths 1 to 9, 14", x, new int[][] {
            {1, 18, 1, 0, 9}, {1, 9, 1, 0, 8}, {1, 6, 1, 0, 7}, {2, 9, 1, 0, 6}, {5, 18, 1, 0, 5},
            {1, 3, 1, 0, 4}, {7, 18, 1, 0, 3}, {4, 9, 1, 0, 2}, {1, 2, 1, 0, 1}, {7, 9, 1, 0, 0}});
    }

    private static void lowestTerms() {
        all("1 by 3", Check.house("house xx/xx;speed 3,3,3,3"), new int[][] {{1, 3, 1, 0, 0}});
        all("2 by 5", Check.house("house xxx/xxx;speed 1,2,4,3"), new int[][] {{2, 5, 1, 0, 0}});
        all("5 by 9", Check.house(Check.full(14, 10) + ";speed 9,9,9,9"), new int[][] {{5, 9, 1, 0, 0}});
        all("1 by 18", Check.house("house x;speed 9,9,9,9"), new int[][] {{1, 18, 1, 0, 0}});
    }

    private static void theFrameAtItsBounds() {
        all("full", Check.house(Check.full(14, 10)), new int[][] {{5, 1, 1, 0, 0}});
        all("narrow", Check.house(Check.full(14, 10) + ";speed 1,9,1,9"), new int[][] {{7, 9, 1, 0, 0}});
        all("column", Check.house(Check.full(1, 10) + ";speed 9,1,9,1"), new int[][] {{1, 2, 1, 0, 0}});
        all("row", Check.house(Check.full(14, 1) + ";speed 1,9,1,9"), new int[][] {{1, 2, 1, 0, 0}});
    }

    private static void notSoMany() {
        EaveRoofs x = Check.house("house x");
        int[] beyond = {1, 2, 24, 1 << 30, Integer.MAX_VALUE};
        for (int k : beyond) {
            for (int what = 0; what < 5; what++) {
                Check.taken("event(" + k + ", " + what + ")", x, x.event(k, what), -2);
            }
        }
    }

    private static void kBelowNought() {
        EaveRoofs x = Check.house("house x");
        Check.refused("event(-1, 0)", x, x.event(-1, 0), 1);
        Check.refused("event(min, 4)", x, x.event(Integer.MIN_VALUE, 4), 1);
    }

    private static void noSuchWhat() {
        EaveRoofs x = Check.house("house x");
        int[] wrong = {-1, 5, Integer.MIN_VALUE, Integer.MAX_VALUE};
        for (int what : wrong) {
            Check.refused("event(0, " + what + ")", x, x.event(0, what), 1);
            // Of an event that there is not, too.
            Check.refused("event(9, " + what + ")", x, x.event(9, what), 1);
        }
    }

    private static void behindAnAct() {
        EaveRoofs x = Check.house("house xxxoxxx/xxxxxxx/xxxoxxx");
        x.set(3, 1, false);
        all("cut", x, new int[][] {{3, 2, 2, 0, 0}});
        x.undo();
        all("undone", x, new int[][] {{1, 2, 0, 1, 2}, {3, 2, 2, 0, 0}});
        x.runs(1, 2);
        all("east runs", x, new int[][] {{1, 2, 0, 1, 2}, {1, 1, 2, 0, 0}});
    }

    private static void noHouse() {
        EaveRoofs x = new EaveRoofs();
        Check.refused("event(0, 0)", x, x.event(0, 0), 1);
        Check.refused("event(-1, 5)", x, x.event(-1, 5), 1);
    }
}
