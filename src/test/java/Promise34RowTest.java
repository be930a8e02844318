import java.util.Arrays;
import java.util.NoSuchElementException;

/**
 * Promise 34, row: "A row of THE FRAME as bits (x 0 counts 1). NoSuchElementException if there is none
 * such."
 */
public final class Promise34RowTest {
    public static void main(String[] args) {
        theFirstCellCountsOne();
        aRowWithNoneInside();
        theFrameAtItsBounds();
        behindAnAct();
        noSuchRow();
        noHouse();
        troubleAndWhereStay();
        Check.end();
    }

    private static void theFirstCellCountsOne() {
        Check.rows("rows", Check.house("house xoo/oxo/oox/xxo/xxx"), 1, 2, 4, 3, 7);
    }

    private static void aRowWithNoneInside() {
        Check.rows("none", Check.house("house oo/xo/oo"), 0, 1, 0);
    }

    private static void theFrameAtItsBounds() {
        int[] want = new int[10];
        Arrays.fill(want, 16383);
        Check.rows("full", Check.house(Check.full(14, 10)), want);
        Check.rows("the last", Check.house("house ooooooooooooox"), 8192);
        Check.rows("one cell", Check.house("house x"), 1);
    }

    private static void behindAnAct() {
        EaveRoofs x = Check.house("house xoo");
        x.set(2, 0, true);
        Check.rows("set", x, 5);
        x.undo();
        Check.rows("undone", x, 1);
    }

    private static void noSuchRow() {
        EaveRoofs x = Check.house("house xoo/oxo");
        int[] wrong = {-1, 2, 9, 10, Integer.MIN_VALUE, Integer.MAX_VALUE};
        for (int y : wrong) {
            throwsAt(x, y);
        }
        Check.tell(x, "house xx");
        throwsAt(x, 1);
    }

    private static void throwsAt(EaveRoofs x, int y) {
        boolean thrown = false;
        try {
            x.row(y);
        } catch (NoSuchElementException none) {
            thrown = none.getClass() == NoSuchElementException.class;
        }
        Check.yes("row(" + y + ") throws", thrown);
    }

    private static void noHouse() {
        EaveRoofs x = new EaveRoofs();
        throwsAt(x, 0);
        throwsAt(x, -1);
        Check.tell(x, "house o");
        throwsAt(x, 0);
    }

    /** Of row no number is told: it is none of the calls whose trouble() is told. */
    private static void troubleAndWhereStay() {
        EaveRoofs x = Check.house("house xoo");
        throwsAt(x, 1);
        Check.eq("trouble() stays 0", x.trouble(), 0);
        Check.refused("cell(9, 9)", x, x.cell(9, 9), 1);
        Check.eq("row(0)", Check.row(x, 0), 1);
        Check.eq("trouble() stays 1", x.trouble(), 1);
        Check.tell(x, "house");
        throwsAt(x, 1);
        Check.eq("trouble() stays 4", x.trouble(), 4);
        Check.eq("where() stays", x.where(), 5);
    }
}
