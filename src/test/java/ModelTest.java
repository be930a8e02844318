import java.util.NoSuchElementException;
import java.util.Random;

/** Runs of calls of all kinds; behind each call its answer and all that is told are held against Model. */
public final class ModelTest {
    private static final int[] ODD = {Integer.MIN_VALUE, Integer.MAX_VALUE, -1, -2, 10, 14, 15, 16, 40, 41, 56, 57, 9999, 10000};
    private static final String[] KINDS = {"text", "tape", "house", "points", "left", "act", "told"};

    private final Random random;
    private final EaveRoofs roofs = new EaveRoofs();
    private final Model model = new Model();
    private int wide = 1;
    private int high = 1;
    private int calls = 0;
    private final StringBuilder run = new StringBuilder();

    private ModelTest(Random random) {
        this.random = random;
    }

    public static void main(String[] args) {
        Random random = new Random(args.length > 0 ? Long.parseLong(args[0]) : 36);
        int runs = args.length > 1 ? Integer.parseInt(args[1]) : 700;
        for (int k = 0; k < runs; k++) {
            new ModelTest(random).one(k % 25 == 0 ? 14 : 5);
        }
        Check.end();
    }

    private void one(int most) {
        while (calls < 440) {
            boolean first = calls == 0 && random.nextInt(10) > 0;
            String kind = first ? "text" : KINDS[random.nextInt(KINDS.length)];
            if (!first && (kind.equals("text") || kind.equals("tape")) && random.nextInt(3) > 0) {
                kind = "act";
            }
            switch (kind) {
                case "text":
                    tellText(most);
                    break;
                case "tape":
                    strayTape();
                    break;
                case "house":
                    askHouse();
                    break;
                case "points":
                    askPoints();
                    break;
                case "left":
                    askLeft();
                    break;
                case "act":
                    act();
                    break;
                default:
                    askRow();
                    break;
            }
        }
    }

    /** One call's answer, then all that is told behind it. */
    private void due(String call, long got, long want) {
        run.append(call).append(" = ").append(want).append("; ");
        calls += 5;
        boolean like = got == want && roofs.trouble() == model.trouble() && roofs.where() == model.where()
                && roofs.fault() == model.fault() && roofs.bytes() == model.bytes();
        if (!like) {
            Check.eq(run + call + ", trouble() " + roofs.trouble() + " due " + model.trouble() + ", where() "
                    + roofs.where() + " due " + model.where() + ", fault() " + roofs.fault() + " due "
                    + model.fault() + ", bytes() " + roofs.bytes() + " due " + model.bytes(), got, want);
            Check.yes(call, false);
            calls = 999;
        }
    }

    // ---- texts

    private void tellText(int most) {
        String text = goodText(most);
        for (int k = random.nextInt(4) - 1; k > 0; k--) {
            text = random.nextBoolean() ? marred(text) : overtold(text);
        }
        // An empty tape, most often: what strayed onto it is seldom how a text begins.
        if (model.bytes() > 0 && random.nextInt(8) > 0) {
            due("text(0)", roofs.text(0), model.text(0));
        }
        int before = model.bytes();
        StringBuilder padded = new StringBuilder(text);
        while (padded.length() % 20 != 0) {
            padded.append((char) (random.nextInt(3) == 0 ? random.nextInt(256) : ' '));
        }
        for (int at = 0; at < padded.length(); at += 20) {
            int[] v = new int[5];
            for (int i = 0; i < 20; i++) {
                v[i / 4] = v[i / 4] << 8 | padded.charAt(at + i);
            }
            feed(v);
        }
        int n = before > 0 && random.nextBoolean() ? before + text.length() : text.length();
        n += random.nextInt(12) == 0 ? random.nextInt(41) - 20 : 0;
        due("text(" + n + ")", roofs.text(n), model.text(n));
    }

    private void feed(int[] v) {
        due("feed", roofs.feed(v[0], v[1], v[2], v[3], v[4]), model.feed(v));
    }

    private String goodText(int most) {
        wide = 1 + random.nextInt(most);
        high = 1 + random.nextInt(Math.min(most, 10));
        int share = 1 + random.nextInt(10);
        StringBuilder text = new StringBuilder("house ");
        for (int y = 0; y < high; y++) {
            text.append(y == 0 ? "" : blanks() + "/" + blanks());
            for (int x = 0; x < wide; x++) {
                text.append(random.nextInt(10) < share ? 'x' : 'o');
            }
        }
        int speedAt = random.nextInt(9);
        int marks = random.nextInt(3) == 0 ? 6 + random.nextInt(3) : random.nextInt(4);
        for (int i = 0; i <= marks; i++) {
            if (i == speedAt) {
                text.append(blanks()).append(';').append(blanks()).append("speed").append(blanks());
                for (int side = 0; side < 4; side++) {
                    text.append(side == 0 ? "" : ",").append(1 + random.nextInt(random.nextBoolean() ? 9 : 2));
                }
            }
            if (i < marks) {
                text.append(';').append("mark").append(blanks()).append(random.nextInt(4 * wide + 1));
                text.append(blanks()).append(',').append(blanks()).append(random.nextInt(4 * high + 1));
            }
        }
        return text.toString();
    }

    private String blanks() {
        return " ".repeat(random.nextInt(6) == 0 ? 1 + random.nextInt(2) : 0);
    }

    private String marred(String text) {
        String[] put = {";", ",", "/", " ", "x", "o", "a", "z", "`", "{", "0", "9", ":", "\u00e9", "X", "10", "0001",
            "00000", "house", "speed", "mark", ";house x", ";speed 1,1,1,1", ";mark 0,0", "/x", "/o",
            "xxxxxxxxxxxxxxx", "xxxxxxxxxxxxxx", "57", "41", "\n", "\0"};
        int at = random.nextInt(text.length() + 1);
        int cut = Math.min(text.length(), at + random.nextInt(3));
        switch (random.nextInt(5)) {
            case 0:
                return text.substring(0, at) + text.substring(cut);
            case 1:
                return text.substring(0, at) + put[random.nextInt(put.length)] + text.substring(cut);
            case 2:
                return text + put[random.nextInt(put.length)];
            case 3:
                return text + text.substring(at);
            default:
                return text.substring(0, at) + put[random.nextInt(put.length)] + text.substring(at);
        }
    }

    /** Lines and rows told once more, or once too often. */
    private String overtold(String text) {
        String line = "x".repeat(wide);
        String[] more = {";house " + line, ";speed 9,1,8,2", ";mark 0,0", ";mark " + (4 * wide + 1) + ",0",
            ";mark 0," + (4 * high + 1), ";speed 1,0,1,1", ";mark", ";speed 1,1,1"};
        int kind = random.nextInt(more.length + 2);
        if (kind < more.length) {
            return text + more[kind].repeat(kind == 2 ? 1 + random.nextInt(9) : 1);
        }
        int rows = text.indexOf(';') < 0 ? text.length() : text.indexOf(';');
        String row = random.nextInt(3) == 0 ? "/" + line + "x" : "/" + line;
        return text.substring(0, rows) + row.repeat(1 + random.nextInt(10)) + text.substring(rows);
    }

    private void strayTape() {
        if (random.nextInt(3) > 0) {
            feed(new int[] {random.nextInt(), 0x686f7573, 0x65207878, 0x20202020, random.nextInt()});
            return;
        }
        int n = random.nextInt(4) == 0 ? ODD[random.nextInt(ODD.length)] : model.bytes() + random.nextInt(2);
        due("text(" + n + ")", roofs.text(n), model.text(n));
    }

    private void askRow() {
        int y = near(high - 1);
        int got;
        int want;
        try {
            got = roofs.row(y);
        } catch (NoSuchElementException none) {
            got = -9;
        }
        try {
            want = model.row(y);
        } catch (NoSuchElementException none) {
            want = -9;
        }
        due("row(" + y + ")", got, want);
    }

    // ---- numbers: mostly ones that there are, now and then just beyond, or far off

    private int near(int most) {
        int kind = random.nextInt(24);
        if (kind == 0) {
            return ODD[random.nextInt(ODD.length)];
        }
        return kind == 1 ? most + 1 : kind == 2 ? -1 : random.nextInt(Math.max(1, most + 1));
    }

    private static String told(String call, int... numbers) {
        StringBuilder text = new StringBuilder(call).append('(');
        for (int i = 0; i < numbers.length; i++) {
            text.append(i == 0 ? "" : ", ").append(numbers[i]);
        }
        return text.append(')').toString();
    }

    // ---- asking

    private void askHouse() {
        int x = near(wide - 1);
        int y = near(high - 1);
        int side = near(3);
        int what = near(1);
        switch (random.nextInt(7)) {
            case 0:
                int about = near(7);
                due(told("about", about), roofs.about(about), model.about(about));
                break;
            case 1:
                due(told("cell", x, y), roofs.cell(x, y), model.cell(x, y));
                break;
            case 2:
                due(told("speed", side), roofs.speed(side), model.speed(side));
                break;
            case 3:
                int i = near(random.nextInt(2 * (wide + high)));
                due(told("wall", i, side), roofs.wall(i, side), model.wall(i, side));
                break;
            case 4:
                due(told("wallOf", x, y, side), roofs.wallOf(x, y, side), model.wallOf(x, y, side));
                break;
            case 5:
                int m = near(3);
                due(told("mark", m, what), roofs.mark(m, what), model.mark(m, what));
                break;
            default:
                due(told("rim", side), roofs.rim(side), model.rim(side));
                break;
        }
    }

    private void askPoints() {
        int px = near(4 * wide);
        int py = near(4 * high);
        int what = near(1);
        int i = near(4);
        switch (random.nextInt(9)) {
            case 0:
                due(told("height", px, py, what), roofs.height(px, py, what), model.height(px, py, what));
                break;
            case 1:
                due(told("slopes", px, py), roofs.slopes(px, py), model.slopes(px, py));
                break;
            case 2:
                due(told("drop", px, py), roofs.drop(px, py), model.drop(px, py));
                break;
            case 3:
                due(told("catches", i), roofs.catches(i), model.catches(i));
                break;
            case 4:
                int set = near(15);
                due(told("faces", set), roofs.faces(set), model.faces(set));
                break;
            case 5:
                due(told("highest", what), roofs.highest(what), model.highest(what));
                break;
            case 6:
                due(told("ranked", i), roofs.ranked(i), model.ranked(i));
                break;
            case 7:
                int j = near(4);
                due(told("higher", i, j), roofs.higher(i, j), model.higher(i, j));
                break;
            default:
                int a = near(9);
                int b = near(20);
                due(told("points", a, b), roofs.points(a, b), model.points(a, b));
                break;
        }
    }

    private void askLeft() {
        int what = near(1);
        int a = near(random.nextInt(4) == 0 ? 9999 : 9);
        int b = near(random.nextInt(4) == 0 ? 9999 : 20);
        int x = near(wide - 1);
        int y = near(high - 1);
        int i = near(random.nextInt(4));
        switch (random.nextInt(7)) {
            case 0:
                due(told("pieces", a, b), roofs.pieces(a, b), model.pieces(a, b));
                break;
            case 1:
                due(told("area", a, b, what), roofs.area(a, b, what), model.area(a, b, what));
                break;
            case 2:
                due(told("piece", a, b, i, what), roofs.piece(a, b, i, what), model.piece(a, b, i, what));
                break;
            case 3:
                int of = near(4);
                due(told("event", i, of), roofs.event(i, of), model.event(i, of));
                break;
            case 4:
                due(told("top", what), roofs.top(what), model.top(what));
                break;
            case 5:
                due(told("under", what), roofs.under(what), model.under(what));
                break;
            default:
                due(told("would", x, y, what), roofs.would(x, y, what), model.would(x, y, what));
                break;
        }
    }

    private void act() {
        switch (random.nextInt(6)) {
            case 0:
            case 1:
                int x = near(wide - 1);
                int y = near(high - 1);
                boolean is = random.nextBoolean();
                due(told("set", x, y, is ? 1 : 0), roofs.set(x, y, is), model.set(x, y, is));
                break;
            case 2:
                int side = near(3);
                int v = random.nextInt(11);
                due(told("runs", side, v), roofs.runs(side, v), model.runs(side, v));
                break;
            case 3:
                int what = near(1);
                due(told("turn", what), roofs.turn(what) ? 1 : 0, model.turn(what) ? 1 : 0);
                break;
            case 4:
                due("grow()", roofs.grow(), model.grow());
                break;
            default:
                due("undo()", roofs.undo(), model.undo());
                break;
        }
    }
}
