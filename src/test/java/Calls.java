import java.util.ArrayList;
import java.util.List;
import java.util.function.ToLongFunction;

/** Every call that may be refused: once as it is taken by the house of TEXT, once as it is refused. */
final class Calls {
    static final String TEXT = "house xxo/xxx;mark 1,1;mark 4,4";

    private Calls() {
    }

    /** Trouble is that of the refused one; turn's false counts as NONE. */
    record Call(String name, ToLongFunction<EaveRoofs> taken, ToLongFunction<EaveRoofs> refused, int trouble) {
    }

    /** All but text(), which alone needs no house. */
    static List<Call> ofHouses() {
        List<Call> calls = new ArrayList<>();
        calls.add(new Call("about", x -> x.about(0), x -> x.about(8), 1));
        calls.add(new Call("cell", x -> x.cell(0, 0), x -> x.cell(3, 0), 1));
        calls.add(new Call("speed", x -> x.speed(0), x -> x.speed(4), 1));
        calls.add(new Call("wall", x -> x.wall(0, 0), x -> x.wall(-1, 0), 1));
        calls.add(new Call("wallOf", x -> x.wallOf(0, 0, 0), x -> x.wallOf(2, 0, 0), 5));
        calls.add(new Call("mark", x -> x.mark(0, 0), x -> x.mark(2, 0), 1));
        calls.add(new Call("height", x -> x.height(0, 0, 0), x -> x.height(13, 0, 0), 2));
        calls.add(new Call("slopes", x -> x.slopes(0, 0), x -> x.slopes(0, 9), 2));
        calls.add(new Call("drop", x -> x.drop(0, 0), x -> x.drop(-1, 0), 2));
        calls.add(new Call("catches", x -> x.catches(0), x -> x.catches(99), 1));
        calls.add(new Call("faces", x -> x.faces(0), x -> x.faces(16), 2));
        calls.add(new Call("rim", x -> x.rim(0), x -> x.rim(4), 1));
        calls.add(new Call("highest", x -> x.highest(0), x -> x.highest(2), 1));
        calls.add(new Call("ranked", x -> x.ranked(0), x -> x.ranked(2), 1));
        calls.add(new Call("points", x -> x.points(0, 1), x -> x.points(0, 0), 2));
        calls.add(new Call("pieces", x -> x.pieces(0, 1), x -> x.pieces(0, 0), 2));
        calls.add(new Call("area", x -> x.area(0, 1, 0), x -> x.area(0, 0, 0), 2));
        calls.add(new Call("piece", x -> x.piece(0, 1, 0, 0), x -> x.piece(0, 1, 1, 0), 1));
        calls.add(new Call("event", x -> x.event(99, 0), x -> x.event(-1, 0), 1));
        calls.add(new Call("top", x -> x.top(0), x -> x.top(2), 1));
        calls.add(new Call("higher", x -> x.higher(0, 1), x -> x.higher(0, 2), 1));
        calls.add(new Call("under", x -> x.under(0), x -> x.under(2), 1));
        calls.add(new Call("would", x -> x.would(0, 0, 0), x -> x.would(0, 0, 2), 1));
        calls.add(new Call("set", x -> x.set(2, 0, true), x -> x.set(0, 0, true), 5));
        calls.add(new Call("runs", x -> x.runs(0, 1), x -> x.runs(0, 0), 2));
        calls.add(new Call("turn", x -> x.turn(0) ? 1 : -1, x -> x.turn(2) ? 1 : -1, 1));
        // Where there is a house, nothing is refused of grow().
        calls.add(new Call("grow", x -> x.grow(), null, 0));
        calls.add(new Call("undo", x -> undoOne(x), x -> x.undo(), 5));
        return calls;
    }

    private static long undoOne(EaveRoofs x) {
        x.runs(0, 1);
        return x.undo();
    }
}
