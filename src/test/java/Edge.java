import java.util.ArrayList;
import java.util.List;
import java.util.function.Consumer;
import java.util.function.ToLongFunction;

/** Asks what an act changes: the act is called on one object and left out on its twin; then both are asked for all. */
final class Edge {
    static final int LEAST = Integer.MIN_VALUE;
    static final int MOST = Integer.MAX_VALUE;

    private final Due due;
    private final Consumer<BathBorder> before;

    private Edge(Due due, Consumer<BathBorder> before) {
        this.due = due;
        this.before = before;
    }

    /** A new object. */
    static Edge fresh(Due due) {
        return new Edge(due, x -> { });
    }

    /** An object with something of all kinds in it. */
    static Edge settled(Due due) {
        return new Edge(due, Edge::settle);
    }

    /** A settled one with as many bathers as there may be. */
    static Edge crowded(Due due) {
        return settled(due).and(x -> x.bather(6, 0)).and(x -> x.bather(0, 47));
    }

    /** A new object with one bather. */
    static Edge one(Due due, int kind, int cell, int wish) {
        return fresh(due).and(x -> x.bather(kind, cell)).and(x -> x.change(0, 2, wish));
    }

    /** The same object with some more calls before the act. */
    Edge and(Consumer<BathBorder> more) {
        return new Edge(due, before.andThen(more));
    }

    /** The act answers a finding; nothing but status() changes, and that by this one alone. */
    void refused(String what, int finding, ToLongFunction<BathBorder> act) {
        held(what, finding, act, Due.BEYOND - finding);
    }

    /** The act answers, and nothing changes, status() neither. */
    void tells(String what, long want, ToLongFunction<BathBorder> act) {
        held(what, want, act, -1);
    }

    /** The act answers, and status() doesn't change. */
    void does(String what, long want, ToLongFunction<BathBorder> act) {
        BathBorder x = made();
        int findings = x.status(-1);
        due.is(what, want, act.applyAsLong(x));
        due.is(what + ", findings", findings, x.status(-1));
    }

    private void held(String what, long want, ToLongFunction<BathBorder> act, int counted) {
        BathBorder x = made();
        BathBorder twin = made();
        due.is(what, want, act.applyAsLong(x));
        for (int which = 0; which < 7; which++) {
            due.is(what + ", status " + which, twin.status(which) + (which == counted ? 1 : 0), x.status(which));
        }
        due.is(what + ", status of all", twin.status(-1) + (counted < 0 ? 0 : 1), x.status(-1));
        List<Long> is = print(x);
        List<Long> was = print(twin);
        due.is(what + ", as many answers", was.size(), is.size());
        for (int i = 0; i < was.size() && i < is.size(); i++) {
            due.is(what + ", answer " + i + " behind it", was.get(i), is.get(i));
        }
    }

    private BathBorder made() {
        BathBorder x = new BathBorder();
        before.accept(x);
        return x;
    }

    /** All that an object tells, its world, sheets, tape and image; the object is used up by that. */
    private static List<Long> print(BathBorder x) {
        List<Long> all = new ArrayList<>();
        world(x, all);
        for (int s = 0; s < 4; s++) {
            sheet(x, s, all);
        }
        all.add((long) x.text());
        all.add((long) x.cell(5, 0));
        all.add((long) x.undo());
        world(x, all);
        all.add((long) x.tear());
        return all;
    }

    private static void world(BathBorder x, List<Long> all) {
        for (int cell = 0; cell < 48; cell++) {
            all.add((long) x.cell(cell, 0));
            all.add((long) x.cell(cell, 1));
        }
        for (int b = 0; b < x.count(1); b++) {
            for (int what = 0; what < 5; what++) {
                all.add((long) x.of(b, what));
            }
        }
        for (int what = 0; what < 8; what++) {
            all.add((long) x.count(what));
        }
        all.add((long) x.now(4));
        for (int guard = 0; guard < 4; guard++) {
            all.add((long) x.guard(guard, -1));
        }
        for (int spot = 0; spot < 10; spot++) {
            all.add((long) x.as(spot, 0));
        }
    }

    /** A sheet's numbers, its length (at most 5 is told apart), and its bits. */
    private static void sheet(BathBorder x, int s, List<Long> all) {
        int came = x.load(s);
        all.add((long) came);
        for (int i = 0; i < came; i++) {
            all.add((long) x.cell(i, 0));
        }
        for (int i = Math.max(0, came); i < 5; i++) {
            all.add((long) x.write(s, i, 3));
        }
        all.add((long) x.load(s));
        x.write(s, 0, 0x101);
        all.add((long) x.load(s));
        x.write(s, 0, 0x10001);
        all.add((long) x.load(s));
    }

    /** Something of all kinds: six bathers, the first of them out; what is kept is other than what is. */
    static void settle(BathBorder x) {
        x.fill(3, 0, 4);
        x.fill(44, 0, 9);
        x.fill(10, 1, 3);
        x.fill(25, 1, 4);
        x.guard(1, 17);
        x.guard(3, 46);
        x.sight(5);
        for (int kind = 0; kind < 6; kind++) {
            x.bather(kind, 9 * kind + 1);
        }
        x.change(1, 2, 1);
        x.change(2, 3, 50);
        x.change(4, 4, 5);
        x.change(5, 4, 4);
        x.hold(0, 0);
        x.hold(9, 5);
        x.seed(-77);
        Due.sheet(x, 0, 8, 1, 2, 3);
        Due.sheet(x, 1, 16, 4, 5);
        x.sheet(2, 32, 0);
        Due.feed(x, "steam 5 6;spy");
        x.image();
        x.fill(3, 0, 5);
        x.hold(1, 2);
        x.go(3);
    }

    /** Currents that lead through all cells, row by row, from cell 0 on and to cell 40 at the end: 47 steps of a stayer. */
    static void allCells(BathBorder x) {
        for (int row = 0; row < 6; row++) {
            boolean right = row % 2 == 0;
            for (int column = 0; column < 8; column++) {
                x.fill(8 * row + column, 1, right ? 2 : 4);
            }
            x.fill(8 * row + (right ? 7 : 0), 1, row < 5 ? 3 : 4);
        }
    }

    /** Currents that lead round through all 48 cells; cell 9 has none, but a stayer goes on from there to cell 10. */
    static void ring(BathBorder x) {
        String[] rows = {"34434444", "30132231", "31441431", "32323131", "31313131", "21212121"};
        for (int cell = 0; cell < 48; cell++) {
            x.fill(cell, 1, rows[cell / 8].charAt(cell % 8) - '0');
        }
    }

    /** Currents that lead through columns 1 to 7, from cell 7 on, and to cell 40 at the end: 42 steps to the west. */
    static void longWay(BathBorder x) {
        for (int column = 7; column >= 1; column--) {
            boolean down = column % 2 == 1;
            for (int row = 0; row < 6; row++) {
                x.fill(8 * row + column, 1, down ? 3 : 1);
            }
            x.fill(down ? 40 + column : column, 1, 4);
        }
    }
}
