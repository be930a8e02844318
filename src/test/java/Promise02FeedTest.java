/**
 * Promise 2, feed: "Twenty bytes come behind THE TAPE, of each number the highest first: how many it
 * has; NONE, and none comes, if there would be more than 400 (trouble() stays)."
 */
public final class Promise02FeedTest {
    public static void main(String[] args) {
        theHighestByteComesFirst();
        everyByteHasItsPlace();
        bytesComeBehindThoseThere();
        itTellsHowManyThereAre();
        fourHundredAreTakenNoneMore();
        whatIsRefusedLeavesTheTape();
        troubleStays();
        anEmptiedTapeTakesAgain();
        Check.end();
    }

    private static void theHighestByteComesFirst() {
        EaveRoofs x = new EaveRoofs();
        Check.eq("feed", x.feed(0x686f7573, 0x6520786f, 0x2f6f7820, -1, -1), 20);
        Check.taken("text(11)", x, x.text(11), 2);
        Check.rows("xo/ox", x, 1, 2);
        EaveRoofs y = new EaveRoofs();
        y.feed(0x686f7573, 0x65202020, 0x20202020, 0x20202020, 0x202020f8);
        Check.refused("a byte above 127", y, y.text(20), 4);
        Check.eq("where()", y.where(), 19);
    }

    /** A sign that begins no token, put at each of the forty places. */
    private static void everyByteHasItsPlace() {
        for (int place = 0; place < 40; place++) {
            Check.fault(" ".repeat(place) + "." + " ".repeat(39 - place), 1, place);
        }
    }

    private static void bytesComeBehindThoseThere() {
        EaveRoofs x = new EaveRoofs();
        x.feed(0x20202020, 0x20202020, 0x20202020, 0x20202020, 0x2020686f);
        x.feed(0x75736520, 0x7878782f, 0x786f7820, 0x20202020, 0x20202020);
        Check.taken("a word over two feeds", x, x.text(40), 5);
    }

    private static void itTellsHowManyThereAre() {
        EaveRoofs x = new EaveRoofs();
        for (int i = 1; i <= 20; i++) {
            Check.eq("feed " + i, x.feed(i, -i, 0, Integer.MAX_VALUE, Integer.MIN_VALUE), 20 * i);
            Check.eq("bytes " + i, x.bytes(), 20 * i);
        }
    }

    private static void fourHundredAreTakenNoneMore() {
        EaveRoofs x = new EaveRoofs();
        Check.feed(x, " ".repeat(380));
        Check.eq("up to 400", x.feed(0, 0, 0, 0, 0), 400);
        Check.eq("beyond 400", x.feed(0, 0, 0, 0, 0), -1);
        Check.eq("bytes()", x.bytes(), 400);
        Check.eq("beyond 400, once more", x.feed(1, 2, 3, 4, 5), -1);
        Check.eq("bytes()", x.bytes(), 400);
    }

    private static void whatIsRefusedLeavesTheTape() {
        EaveRoofs x = new EaveRoofs();
        Check.feed(x, " ".repeat(390) + "house  xox");
        Check.eq("beyond 400", x.feed(-1, -1, -1, -1, -1), -1);
        Check.taken("text(400)", x, x.text(400), 2);
        Check.rows("xox", x, 5);
    }

    private static void troubleStays() {
        EaveRoofs x = new EaveRoofs();
        Check.feed(x, "a");
        Check.refused("faulty", x, x.text(1), 4);
        for (int i = 1; i <= 21; i++) {
            x.feed(0, 0, 0, 0, 0);
            Check.eq("trouble() stays, feed " + i, x.trouble(), 4);
            Check.eq("where() stays, feed " + i, x.where(), 0);
        }
        Check.refused("about", x, x.about(0), 1);
        Check.eq("beyond 400", x.feed(0, 0, 0, 0, 0), -1);
        Check.eq("trouble() stays", x.trouble(), 1);
        EaveRoofs y = Check.house("house x");
        Check.feed(y, " ".repeat(400));
        Check.eq("beyond 400", y.feed(0, 0, 0, 0, 0), -1);
        Check.eq("trouble() stays 0", y.trouble(), 0);
    }

    private static void anEmptiedTapeTakesAgain() {
        EaveRoofs x = new EaveRoofs();
        Check.feed(x, "house xxx" + " ".repeat(391));
        Check.taken("text(9)", x, x.text(9), 3);
        Check.eq("from none on", x.feed(0x686f7573, 0x65207820, 0x20202020, 0x20202020, 0x20202020), 20);
        Check.taken("text(20)", x, x.text(20), 1);
    }
}
