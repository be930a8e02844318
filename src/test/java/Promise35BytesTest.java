/** Promise 35, bytes: "Bytes of THE TAPE." */
public final class Promise35BytesTest {
    public static void main(String[] args) {
        noneAtFirst();
        twentyMoreEachTime();
        fourHundredAtMost();
        noneBehindAText();
        noneBehindAFaultyText();
        allStayIfNIsRefused();
        troubleStays();
        otherCallsLeaveThem();
        Check.end();
    }

    private static void noneAtFirst() {
        Check.eq("new", new EaveRoofs().bytes(), 0);
    }

    private static void twentyMoreEachTime() {
        EaveRoofs x = new EaveRoofs();
        for (int i = 1; i <= 20; i++) {
            x.feed(0, 0, 0, 0, 0);
            Check.eq("feed " + i, x.bytes(), 20 * i);
        }
    }

    private static void fourHundredAtMost() {
        EaveRoofs x = new EaveRoofs();
        Check.feed(x, " ".repeat(400));
        Check.eq("full", x.bytes(), 400);
        x.feed(0, 0, 0, 0, 0);
        Check.eq("no more", x.bytes(), 400);
    }

    private static void noneBehindAText() {
        EaveRoofs x = new EaveRoofs();
        Check.feed(x, "house x" + " ".repeat(50));
        Check.eq("fed", x.bytes(), 60);
        Check.eq("text(7)", x.text(7), 1);
        Check.eq("behind a text", x.bytes(), 0);
    }

    private static void noneBehindAFaultyText() {
        EaveRoofs x = new EaveRoofs();
        Check.feed(x, "house x" + " ".repeat(50));
        Check.eq("text(5)", x.text(5), -1);
        Check.eq("behind a faulty text", x.bytes(), 0);
        Check.feed(x, "house x");
        Check.eq("text(0)", x.text(0), -1);
        Check.eq("behind an empty text", x.bytes(), 0);
    }

    private static void allStayIfNIsRefused() {
        EaveRoofs x = new EaveRoofs();
        Check.feed(x, "house x");
        x.text(-1);
        Check.eq("behind text(-1)", x.bytes(), 20);
        x.text(21);
        Check.eq("behind text(21)", x.bytes(), 20);
    }

    private static void troubleStays() {
        EaveRoofs x = new EaveRoofs();
        x.about(0);
        x.bytes();
        Check.eq("trouble()", x.trouble(), 1);
    }

    private static void otherCallsLeaveThem() {
        for (Calls.Call call : Calls.ofHouses()) {
            EaveRoofs x = Check.house(Calls.TEXT);
            Check.feed(x, "house x");
            call.taken().applyAsLong(x);
            if (call.refused() != null) {
                call.refused().applyAsLong(x);
            }
            Check.eq("behind " + call.name(), x.bytes(), 20);
            Check.taken("behind " + call.name() + ", text(7)", x, x.text(7), 1);
        }
    }
}
