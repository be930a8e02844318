/** Promise 1, a new object: "No HOUSE." */
public final class Promise01NewObjectTest {
    public static void main(String[] args) {
        nothingIsToldYet();
        everyCallOfAHouseIsRefused();
        noHouseIsToldAheadOfAnyWrongNumber();
        thereIsNoRow();
        aFaultyTextMakesNoHouse();
        objectsShareNothing();
        Check.end();
    }

    private static void nothingIsToldYet() {
        EaveRoofs x = new EaveRoofs();
        Check.eq("NONE", EaveRoofs.NONE, -1);
        Check.eq("new: trouble()", x.trouble(), 0);
        Check.eq("new: where()", x.where(), -1);
        Check.eq("new: fault()", x.fault(), 0);
        Check.eq("new: bytes()", x.bytes(), 0);
    }

    private static void everyCallOfAHouseIsRefused() {
        for (Calls.Call call : Calls.ofHouses()) {
            EaveRoofs x = new EaveRoofs();
            Check.refused("new: " + call.name(), x, call.taken().applyAsLong(x), 1);
            Check.eq("new: " + call.name() + ", where()", x.where(), -1);
            Check.eq("new: " + call.name() + ", row(0)", Check.row(x, 0), -9);
        }
    }

    private static void noHouseIsToldAheadOfAnyWrongNumber() {
        for (Calls.Call call : Calls.ofHouses()) {
            EaveRoofs x = new EaveRoofs();
            if (call.refused() != null) {
                Check.refused("new, wrong: " + call.name(), x, call.refused().applyAsLong(x), 1);
            }
        }
        EaveRoofs x = new EaveRoofs();
        Check.refused("new: runs(0, 99)", x, x.runs(0, 99), 1);
        Check.refused("new: piece(-1, 0, 0, 0)", x, x.piece(-1, 0, 0, 0), 1);
        Check.refused("new: area(10000, 1, 1)", x, x.area(10000, 1, 1), 1);
        Check.refused("new: set(0, 0, false)", x, x.set(0, 0, false), 1);
        Check.refused("new: wallOf(0, 0, 3)", x, x.wallOf(0, 0, 3), 1);
        Check.refused("new: would(0, 0, 1)", x, x.would(0, 0, 1), 1);
    }

    private static void thereIsNoRow() {
        EaveRoofs x = new EaveRoofs();
        Check.eq("new: row(0)", Check.row(x, 0), -9);
        Check.eq("new: row(-1)", Check.row(x, -1), -9);
        Check.eq("new: row(9)", Check.row(x, 9), -9);
    }

    private static void aFaultyTextMakesNoHouse() {
        EaveRoofs x = new EaveRoofs();
        Check.refused("faulty", x, Check.tell(x, "house xx/xx;mark 1,1;speed 1,1,1,0"), 4);
        Check.refused("about(0)", x, x.about(0), 1);
        Check.refused("mark(0, 0)", x, x.mark(0, 0), 1);
        Check.refused("undo", x, x.undo(), 1);
        Check.eq("row(0)", Check.row(x, 0), -9);
    }

    private static void objectsShareNothing() {
        EaveRoofs one = Check.house("house xx;speed 2,2,2,2;mark 1,1");
        one.grow();
        EaveRoofs other = new EaveRoofs();
        one.feed(0, 0, 0, 0, 0);
        Check.eq("other: bytes()", other.bytes(), 0);
        Check.refused("other: about(0)", other, other.about(0), 1);
        Check.eq("one: trouble()", one.trouble(), 0);
        Check.tell(other, "house x");
        Check.taken("one: about(2)", one, one.about(2), 2);
        Check.taken("other: speed(0)", other, other.speed(0), 1);
        Check.taken("other: about(7)", other, other.about(7), 0);
    }
}
