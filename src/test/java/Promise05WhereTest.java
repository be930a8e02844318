/** Promise 5, where: "Its place, if the latest call that may be refused was by 4; NONE else." */
public final class Promise05WhereTest {
    public static void main(String[] args) {
        noneAtFirst();
        noneBehindAGoodText();
        itStaysByCallsThatAreNeverRefused();
        noneBehindAnyOtherCall();
        noneBehindATextRefusedByTwo();
        aLaterFaultHasItsOwnPlace();
        Check.end();
    }

    private static void noneAtFirst() {
        EaveRoofs x = new EaveRoofs();
        Check.eq("new", x.where(), -1);
        x.about(0);
        Check.eq("behind a refused call", x.where(), -1);
    }

    private static void noneBehindAGoodText() {
        EaveRoofs x = new EaveRoofs();
        Check.tell(x, "house x,");
        Check.eq("faulty", x.where(), 7);
        Check.tell(x, "house x");
        Check.eq("good", x.where(), -1);
    }

    private static void itStaysByCallsThatAreNeverRefused() {
        EaveRoofs x = Check.house("house x");
        Check.refused("faulty", x, Check.tell(x, "house x,"), 4);
        x.feed(0, 0, 0, 0, 0);
        Check.eq("behind feed", x.where(), 7);
        x.bytes();
        x.fault();
        x.trouble();
        Check.eq("behind bytes, fault, trouble, where", x.where(), 7);
        Check.eq("row(0)", Check.row(x, 0), 1);
        Check.eq("behind row", x.where(), 7);
        Check.eq("row(1)", Check.row(x, 1), -9);
        Check.eq("behind row that throws", x.where(), 7);
    }

    private static void noneBehindAnyOtherCall() {
        for (Calls.Call call : Calls.ofHouses()) {
            EaveRoofs x = Check.house(Calls.TEXT);
            Check.refused("faulty", x, Check.tell(x, "house"), 4);
            Check.eq("faulty", x.where(), 5);
            call.taken().applyAsLong(x);
            Check.eq("behind " + call.name(), x.where(), -1);
            EaveRoofs y = Check.house(Calls.TEXT);
            Check.refused("faulty", y, Check.tell(y, "house"), 4);
            if (call.refused() != null) {
                call.refused().applyAsLong(y);
                Check.eq("behind " + call.name() + " refused", y.where(), -1);
            }
        }
    }

    private static void noneBehindATextRefusedByTwo() {
        EaveRoofs x = new EaveRoofs();
        Check.tell(x, "house");
        Check.refused("text(1)", x, x.text(1), 2);
        Check.eq("where()", x.where(), -1);
        Check.eq("fault()", x.fault(), 1);
    }

    private static void aLaterFaultHasItsOwnPlace() {
        EaveRoofs x = new EaveRoofs();
        Check.tell(x, "house xx/xxx");
        Check.eq("first", x.where(), 9);
        Check.tell(x, "roof");
        Check.eq("at the first byte", x.where(), 0);
        Check.tell(x, "house o" + " ".repeat(393));
        Check.eq("at the last one's end", x.where(), 400);
    }
}
