/**
 * Promise 36, trouble: "TROUBLE." With the Terms, III: "of the latest call that may be refused .. : 0 it
 * wasn't; .. Of several the one that the call tells first. What is refused changes nothing but trouble(),
 * where(); by 4 THE TAPE (empty then), fault()."
 */
public final class Promise36TroubleTest {
    public static void main(String[] args) {
        noneAtFirst();
        eachCallTellsItsOwn();
        eachCallThatIsTakenClearsIt();
        textTellsItsOwn();
        callsThatAreNeverRefusedLeaveIt();
        ofSeveralTheFirstTold();
        whatIsRefusedChangesNothing();
        minusTwoIsNoRefusal();
        Check.end();
    }

    private static void noneAtFirst() {
        Check.eq("new", new EaveRoofs().trouble(), 0);
    }

    private static void eachCallTellsItsOwn() {
        for (Calls.Call call : Calls.ofHouses()) {
            if (call.refused() != null) {
                EaveRoofs x = Check.house(Calls.TEXT);
                Check.refused(call.name(), x, call.refused().applyAsLong(x), call.trouble());
                Check.eq(call.name() + ", once more", x.trouble(), call.trouble());
            }
        }
    }

    private static void eachCallThatIsTakenClearsIt() {
        for (Calls.Call call : Calls.ofHouses()) {
            EaveRoofs x = Check.house(Calls.TEXT);
            Check.refused("faces(99)", x, x.faces(99), 2);
            call.taken().applyAsLong(x);
            Check.eq("behind " + call.name(), x.trouble(), 0);
            if (call.refused() != null) {
                EaveRoofs y = Check.house(Calls.TEXT);
                y.faces(call.trouble() == 2 ? 0 : 99);
                call.refused().applyAsLong(y);
                Check.eq("behind another and " + call.name(), y.trouble(), call.trouble());
            }
        }
    }

    private static void textTellsItsOwn() {
        EaveRoofs x = new EaveRoofs();
        Check.refused("text(1)", x, x.text(1), 2);
        Check.refused("text(0)", x, x.text(0), 4);
        Check.taken("a good one", x, Check.tell(x, "house x"), 1);
        Check.refused("a faulty one", x, Check.tell(x, "house o"), 4);
        Check.refused("text(-1)", x, x.text(-1), 2);
    }

    private static void callsThatAreNeverRefusedLeaveIt() {
        EaveRoofs x = Check.house("house x");
        int[] numbers = {5, 2, 1, 0, 4};
        for (int number : numbers) {
            provoke(x, number);
            x.fault();
            x.where();
            x.bytes();
            Check.eq("row(0)", Check.row(x, 0), 1);
            Check.eq("row(1)", Check.row(x, 1), -9);
            x.feed(0, 0, 0, 0, 0);
            Check.eq("stays", x.trouble(), number);
        }
    }

    private static void provoke(EaveRoofs x, int number) {
        switch (number) {
            case 0 -> Check.taken("about(0)", x, x.about(0), 1);
            case 1 -> Check.refused("about(8)", x, x.about(8), 1);
            case 2 -> Check.refused("faces(16)", x, x.faces(16), 2);
            case 4 -> Check.refused("text(0)", x, x.text(0), 4);
            default -> Check.refused("undo()", x, x.undo(), 5);
        }
    }

    private static void ofSeveralTheFirstTold() {
        EaveRoofs x = Check.house("house xo");
        Check.refused("wallOf: SIDE, isn't inside", x, x.wallOf(1, 0, 4), 1);
        Check.refused("height: what, no point", x, x.height(-1, 0, 2), 1);
        Check.refused("area: what, t", x, x.area(0, 0, 2), 1);
        Check.refused("piece: i below 0, t", x, x.piece(0, 0, -1, 0), 1);
        Check.refused("piece: what, t", x, x.piece(0, 0, 0, 2), 1);
        Check.refused("piece: t, no such piece", x, x.piece(0, 0, 7, 0), 2);
        Check.refused("would: what, no other", x, x.would(0, 0, 2), 1);
        Check.refused("runs: SIDE, v", x, x.runs(4, 0), 1);
        EaveRoofs y = new EaveRoofs();
        Check.refused("faces: no house, set", y, y.faces(16), 1);
        Check.refused("points: no house, t", y, y.points(0, 0), 1);
        Check.refused("undo: no house, none", y, y.undo(), 1);
    }

    private static void whatIsRefusedChangesNothing() {
        for (Calls.Call call : Calls.ofHouses()) {
            EaveRoofs x = Check.house(Calls.TEXT);
            String house = Told.house(x);
            String measures = Told.measures(x);
            if (call.refused() != null) {
                call.refused().applyAsLong(x);
            }
            Check.same(call.name(), Told.house(x), house);
            Check.eq(call.name() + ", ACTS", x.about(7), 0);
            EaveRoofs y = Check.house(Calls.TEXT);
            if (call.refused() != null) {
                call.refused().applyAsLong(y);
            }
            Check.same(call.name(), Told.measures(y), measures);
        }
    }

    private static void minusTwoIsNoRefusal() {
        EaveRoofs x = Check.house("house xx;mark 0,0;mark 1,1");
        Check.refused("about(8)", x, x.about(8), 1);
        Check.taken("wallOf", x, x.wallOf(0, 0, 1), -2);
        Check.refused("about(8)", x, x.about(8), 1);
        Check.taken("drop", x, x.drop(0, 0), -2);
        Check.refused("about(8)", x, x.about(8), 1);
        Check.taken("event", x, x.event(1, 0), -2);
        Check.refused("about(8)", x, x.about(8), 1);
        Check.taken("higher", x, x.higher(0, 1), -2);
    }
}
