/** An object's whole state, as its calls tell it. */
final class Told {
    private Told() {
    }

    /** The text that tells the house as it stands; empty while there is none. */
    static String house(EaveRoofs x) {
        if (Check.row(x, 0) == -9) {
            return "";
        }
        StringBuilder told = new StringBuilder("house ");
        int wide = x.about(0);
        int high = x.about(1);
        for (int y = 0; y < high; y++) {
            told.append(y == 0 ? "" : "/");
            int line = Check.row(x, y);
            for (int i = 0; i < wide; i++) {
                told.append((line >> i & 1) == 1 ? 'x' : 'o');
            }
        }
        for (int side = 0; side < 4; side++) {
            told.append(side == 0 ? ";speed " : ",").append(x.speed(side));
        }
        int marks = x.about(4);
        for (int i = 0; i < marks; i++) {
            told.append(";mark ").append(x.mark(i, 0)).append(',').append(x.mark(i, 1));
        }
        return told.toString();
    }

    /** All that can be asked of points, walls, what is left; what an older house left over would show. */
    static String measures(EaveRoofs x) {
        StringBuilder told = new StringBuilder();
        for (int i = 0; i < 16; i++) {
            told.append(x.faces(i)).append(' ').append(x.catches(i)).append(' ').append(x.wall(i, i % 4)).append(' ');
            told.append(x.event(i, i % 5)).append(' ').append(x.piece(i, 30, i / 8, 0)).append(' ');
            told.append(x.points(i, 20)).append(' ').append(x.pieces(i, 20)).append(' ').append(x.area(i, 20, 0));
            told.append(' ').append(x.drop(i, 2)).append(' ').append(x.slopes(2, i)).append(' ');
            told.append(x.height(i, i, 0)).append(' ').append(x.ranked(i)).append('\n');
        }
        told.append(x.top(0)).append(' ').append(x.highest(0)).append(' ').append(x.rim(1)).append(' ');
        return told.append(x.under(0)).append(' ').append(x.would(0, 0, 0)).append(x.higher(0, 1)).toString();
    }
}
