/** Promises 1 to 8 at their edges: a new object, the bath, guards, bathers. */
public final class EdgesBathTest {
    private static final Due due = new Due();
    private static final Edge fresh = Edge.fresh(due);
    private static final Edge settled = Edge.settled(due);
    private static final Edge crowded = Edge.crowded(due);

    public static void main(String[] args) {
        newObject();
        fill();
        cell();
        seenSoFar();
        guard();
        sight();
        bather();
        of();
        stepsAtEdges();
        stepsIntoSight();
        change();
        due.end();
    }

    /** A new object has nothing of another one. */
    private static void newObject() {
        BathBorder other = new BathBorder();
        Edge.settle(other);
        other.go(0);
        int[] counts = {0, 0, 0, 0, 0, 0, 1, 0};
        for (int what = 0; what < 8; what++) {
            int count = counts[what];
            int asked = what;
            fresh.tells("1 count " + what, count, x -> x.count(asked));
        }
        for (int which = -1; which < 7; which++) {
            int asked = which;
            fresh.tells("1 status " + which, 0, x -> x.status(asked));
        }
        fresh.tells("1 sight", 4, x -> x.now(4));
        fresh.tells("1 steam", 0, x -> x.cell(3, 0));
        fresh.tells("1 current", 0, x -> x.cell(10, 1));
        fresh.tells("1 nothing is seen", 0, BathBorder::seen);
        fresh.does("1 guards are nowhere", -1, x -> x.guard(1, 0));
        fresh.refused("1 no bather", Due.BEYOND, x -> x.of(0, 1));
        fresh.refused("1 spots are empty", Due.MISSING, x -> x.as(0, 0));
        fresh.refused("1 sheets are missing", Due.MISSING, x -> x.load(0));
        fresh.refused("1 no image is kept", Due.NONE, BathBorder::undo);
        fresh.tells("1 nothing to tear", 0, BathBorder::tear);
        fresh.tells("1 nothing to wipe", 0, BathBorder::wipe);
    }

    private static void fill() {
        for (int cell : new int[] {-1, 48, Edge.LEAST, Edge.MOST}) {
            settled.refused("2 steam of cell " + cell, Due.BEYOND, x -> x.fill(cell, 0, 1));
            settled.refused("2 current of cell " + cell, Due.BEYOND, x -> x.fill(cell, 1, 1));
        }
        for (int what : new int[] {-1, 2, Edge.LEAST, Edge.MOST}) {
            settled.refused("2 what " + what, Due.BEYOND, x -> x.fill(3, what, 1));
        }
        for (int v : new int[] {-1, 10, Edge.LEAST, Edge.MOST}) {
            settled.refused("2 steam " + v, Due.BEYOND, x -> x.fill(3, 0, v));
        }
        for (int v : new int[] {-1, 5, 9, Edge.LEAST, Edge.MOST}) {
            settled.refused("2 current " + v, Due.BEYOND, x -> x.fill(10, 1, v));
        }
        for (int cell : new int[] {0, 47}) {
            filled("2 least steam of " + cell, cell, 0, 0);
            filled("2 most steam of " + cell, cell, 0, 9);
            filled("2 least current of " + cell, cell, 1, 0);
            filled("2 most current of " + cell, cell, 1, 4);
        }
    }

    private static void filled(String name, int cell, int what, int v) {
        fresh.does(name + ", was", 0, x -> x.fill(cell, what, v));
        fresh.and(x -> x.fill(cell, what, v)).does(name + ", is", v, x -> x.cell(cell, what));
        fresh.and(x -> x.fill(cell, what, v)).does(name + ", was then", v, x -> x.fill(cell, what, 1));
        fresh.and(x -> x.fill(cell, what, v)).does(name + ", not the other", 0, x -> x.cell(cell, 1 - what));
    }

    private static void cell() {
        for (int cell : new int[] {-1, 48, Edge.LEAST, Edge.MOST}) {
            for (int what = 0; what < 4; what++) {
                int asked = what;
                settled.refused("3 what " + what + " of cell " + cell, Due.BEYOND, x -> x.cell(cell, asked));
            }
        }
        for (int what : new int[] {-1, 4, Edge.LEAST, Edge.MOST}) {
            settled.refused("3 what " + what, Due.BEYOND, x -> x.cell(0, what));
        }
        settled.tells("3 steam 9", 9, x -> x.cell(44, 0));
        settled.tells("3 current 4", 4, x -> x.cell(25, 1));
        settled.tells("3 nobody", 0, x -> x.cell(47, 3));
        Edge four = fresh.and(x -> {
            for (int guard = 0; guard < 4; guard++) {
                x.guard(guard, 47);
            }
        });
        four.tells("3 by all guards", 15, x -> x.cell(47, 2));
        four.tells("3 by none", 0, x -> x.cell(0, 2));
        Edge eight = fresh.and(x -> {
            for (int b = 0; b < 8; b++) {
                x.bather(0, 0);
            }
        });
        eight.tells("3 all at one cell", 8, x -> x.cell(0, 3));
        eight.and(x -> x.go(1)).tells("3 who is out is at none", 0, x -> x.cell(0, 3));
    }

    /** How far apart is no more than sight less steam: just so, and one more, in rows, columns and both. */
    private static void seenSoFar() {
        Edge guarded = fresh.and(x -> x.guard(2, 0)).and(x -> x.sight(5));
        guarded.tells("3 five columns", 4, x -> x.cell(5, 2));
        guarded.tells("3 six columns", 0, x -> x.cell(6, 2));
        guarded.tells("3 five rows", 4, x -> x.cell(40, 2));
        guarded.tells("3 five rows and a column", 0, x -> x.cell(41, 2));
        guarded.tells("3 three rows and two columns", 4, x -> x.cell(26, 2));
        guarded.tells("3 three rows and three columns", 0, x -> x.cell(27, 2));
        guarded.and(x -> x.fill(2, 0, 3)).tells("3 sight less steam", 4, x -> x.cell(2, 2));
        guarded.and(x -> x.fill(2, 0, 4)).tells("3 sight less more steam", 0, x -> x.cell(2, 2));
        guarded.and(x -> x.fill(0, 0, 9)).tells("3 steam of the guard's cell is no wall", 4, x -> x.cell(1, 2));
        guarded.and(x -> x.fill(1, 0, 9)).tells("3 steam between is no wall", 4, x -> x.cell(2, 2));
        guarded.and(x -> x.fill(0, 0, 5)).tells("3 own cell, nothing left", 4, x -> x.cell(0, 2));
        guarded.and(x -> x.fill(0, 0, 6)).tells("3 own cell, less than nothing left", 0, x -> x.cell(0, 2));
    }

    private static void guard() {
        for (int guard : new int[] {-1, 4, Edge.LEAST, Edge.MOST}) {
            settled.refused("4 guard " + guard, Due.BEYOND, x -> x.guard(guard, 0));
            settled.refused("4 guard " + guard + " to nowhere", Due.BEYOND, x -> x.guard(guard, -1));
        }
        for (int cell : new int[] {-2, 48, Edge.LEAST, Edge.MOST}) {
            settled.refused("4 cell " + cell, Due.BEYOND, x -> x.guard(1, cell));
        }
        for (int guard : new int[] {0, 3}) {
            for (int cell : new int[] {-1, 0, 47}) {
                Edge placed = fresh.and(x -> x.guard(guard, cell));
                fresh.does("4 guard " + guard + " to " + cell, -1, x -> x.guard(guard, cell));
                placed.does("4 guard " + guard + " was at " + cell, cell, x -> x.guard(guard, -1));
                placed.does("4 guard " + guard + " stays at " + cell, cell, x -> x.guard(guard, cell));
            }
        }
        fresh.and(x -> x.guard(0, 9)).and(x -> x.guard(1, 9)).tells("4 two at one cell", 3, x -> x.cell(9, 2));
    }

    private static void sight() {
        for (int v : new int[] {-1, 13, Edge.LEAST, Edge.MOST}) {
            settled.refused("5 sight " + v, Due.BEYOND, x -> x.sight(v));
        }
        fresh.does("5 was at first", 4, x -> x.sight(0));
        fresh.and(x -> x.sight(0)).does("5 was 0", 0, x -> x.sight(12));
        fresh.and(x -> x.sight(12)).does("5 was 12", 12, x -> x.sight(4));
        Edge guarded = fresh.and(x -> x.guard(0, 0));
        guarded.and(x -> x.sight(0)).tells("5 sight 0: its own cell", 1, BathBorder::seen);
        guarded.and(x -> x.sight(12)).tells("5 sight 12: all cells", (1L << 48) - 1, BathBorder::seen);
        guarded.and(x -> x.sight(11)).tells("5 sight 11: all but the farthest", (1L << 47) - 1, BathBorder::seen);
    }

    private static void bather() {
        for (int kind : new int[] {-1, 7, Edge.LEAST, Edge.MOST}) {
            settled.refused("6 kind " + kind, Due.BEYOND, x -> x.bather(kind, 0));
            crowded.refused("6 kind " + kind + " ahead of full", Due.BEYOND, x -> x.bather(kind, 0));
        }
        for (int cell : new int[] {-1, 48, 100, Edge.LEAST, Edge.MOST}) {
            settled.refused("6 cell " + cell, Due.BEYOND, x -> x.bather(0, cell));
            crowded.refused("6 cell " + cell + " ahead of full", Due.BEYOND, x -> x.bather(0, cell));
        }
        crowded.refused("6 the ninth", Due.FULL, x -> x.bather(0, 0));
        crowded.refused("6 the ninth of the last kind", Due.FULL, x -> x.bather(6, 47));
        settled.does("6 the seventh", 6, x -> x.bather(6, 47));
        settled.and(x -> x.bather(0, 0)).does("6 the eighth", 7, x -> x.bather(0, 0));
        for (int kind : new int[] {0, 6}) {
            for (int cell : new int[] {0, 47}) {
                Edge one = fresh.and(x -> x.bather(kind, cell));
                fresh.does("6 kind " + kind + " at " + cell, 0, x -> x.bather(kind, cell));
                one.tells("6 is of kind " + kind, kind, x -> x.of(0, 0));
                one.tells("6 is at " + cell, cell, x -> x.of(0, 1));
            }
        }
        // Who is out has a place among the eight all the same.
        crowded.and(x -> x.go(60)).refused("6 out is no room", Due.FULL, x -> x.bather(0, 0));
    }

    private static void of() {
        for (int what = 0; what < 7; what++) {
            int asked = what;
            fresh.refused("7 what " + what + " of nobody", Due.BEYOND, x -> x.of(0, asked));
            settled.refused("7 what " + what + " of the seventh of six", Due.BEYOND, x -> x.of(6, asked));
            settled.refused("7 what " + what + " below", Due.BEYOND, x -> x.of(-1, asked));
            crowded.refused("7 what " + what + " of the ninth", Due.BEYOND, x -> x.of(8, asked));
        }
        for (int what : new int[] {-1, 7, Edge.LEAST, Edge.MOST}) {
            settled.refused("7 what " + what, Due.BEYOND, x -> x.of(0, what));
        }
        settled.refused("7 bather far beyond", Due.BEYOND, x -> x.of(Edge.MOST, 0));
        settled.refused("7 bather far below", Due.BEYOND, x -> x.of(Edge.LEAST, 0));
        settled.tells("7 out on the west", 100, x -> x.of(0, 1));
        settled.tells("7 out, steps to where one is", 100, x -> x.of(0, 5));
        settled.tells("7 out, isn't seen", 0, x -> x.of(0, 6));
        crowded.tells("7 the eighth's cell", 47, x -> x.of(7, 1));
        crowded.tells("7 the eighth's key", 7, x -> x.of(7, 4));
        crowded.tells("7 the eighth is seen", 1, x -> x.of(7, 6));
        Edge guarded = fresh.and(x -> x.bather(0, 15)).and(x -> x.guard(0, 0));
        guarded.and(x -> x.sight(8)).tells("7 just seen", 1, x -> x.of(0, 6));
        guarded.and(x -> x.sight(7)).tells("7 just not seen", 0, x -> x.of(0, 6));
        Edge east = fresh.and(x -> x.bather(0, 7)).and(x -> x.change(0, 2, 1)).and(x -> x.go(1));
        east.tells("7 out on the east", 101, x -> x.of(0, 1));
        east.tells("7 out on the east, steps to where one is", 101, x -> x.of(0, 5));
    }

    private static Edge one(int kind, int cell, int wish, int current) {
        return fresh.and(x -> {
            x.sight(0);
            x.bather(kind, cell);
            x.change(0, 2, wish);
            x.fill(cell, 1, current);
        });
    }

    private static void stepsAtEdges() {
        int[][] corners = {{0, 0}, {7, 1}, {40, 0}, {47, 1}};
        for (int[] c : corners) {
            for (int kind : new int[] {0, 1, 5}) {
                one(kind, c[0], c[1], 0).tells("7 kind " + kind + " in the column of the wish, " + c[0], c[0], x -> x.of(0, 5));
            }
        }
        one(5, 1, 0, 0).tells("7 child, one column", 0, x -> x.of(0, 5));
        one(5, 2, 0, 0).tells("7 child, two columns", 0, x -> x.of(0, 5));
        one(5, 46, 1, 0).tells("7 child, one column east", 47, x -> x.of(0, 5));
        one(5, 45, 1, 0).tells("7 child, two columns east", 47, x -> x.of(0, 5));
        one(6, 0, 0, 0).tells("7 general in the first cell goes down", 8, x -> x.of(0, 5));
        one(6, 40, 0, 0).tells("7 general in the last row has none down", 40, x -> x.of(0, 5));
        one(6, 39, 1, 0).tells("7 general comes to the last cell", 47, x -> x.of(0, 5));
        one(6, 47, 1, 0).tells("7 general in the last cell", 47, x -> x.of(0, 5));
        for (int kind = 2; kind <= 4; kind++) {
            int[][] walls = {{0, 1}, {7, 1}, {7, 2}, {47, 2}, {40, 3}, {47, 3}, {0, 4}, {40, 4}};
            for (int[] w : walls) {
                one(kind, w[0], 0, w[1]).tells("7 kind " + kind + " at " + w[0] + " by " + w[1], w[0], x -> x.of(0, 5));
            }
            one(kind, 8, 0, 1).tells("7 kind " + kind + " up to the first row", 0, x -> x.of(0, 5));
            one(kind, 46, 0, 2).tells("7 kind " + kind + " right to the last cell", 47, x -> x.of(0, 5));
            one(kind, 39, 0, 3).tells("7 kind " + kind + " down to the last row", 47, x -> x.of(0, 5));
            one(kind, 1, 1, 4).tells("7 kind " + kind + " left to the first cell", 0, x -> x.of(0, 5));
        }
        one(2, 20, 0, 0).tells("7 floater without current", 20, x -> x.of(0, 5));
        for (int kind = 3; kind <= 4; kind++) {
            int[] columns = {1, 2, 3, 3, 4, 4, 5, 6};
            for (int column = 0; column < 8; column++) {
                one(kind, 40 + column, 0, 0).tells("7 kind " + kind + " in column " + column, 40 + columns[column],
                    x -> x.of(0, 5));
            }
        }
    }

    /** Guards see their own cell alone here. */
    private static void stepsIntoSight() {
        one(0, 20, 0, 0).and(x -> x.guard(0, 19)).tells("7 a bather minds no guard", 19, x -> x.of(0, 5));
        one(5, 20, 0, 0).and(x -> x.guard(0, 18)).tells("7 a child minds no guard", 18, x -> x.of(0, 5));
        one(2, 20, 0, 4).and(x -> x.guard(0, 19)).tells("7 a floater minds no guard", 19, x -> x.of(0, 5));
        one(3, 20, 0, 4).and(x -> x.guard(0, 19)).tells("7 a lover minds no guard", 19, x -> x.of(0, 5));
        one(1, 20, 0, 0).and(x -> x.guard(0, 19)).tells("7 a spy does", 20, x -> x.of(0, 5));
        one(1, 20, 0, 0).and(x -> x.guard(0, 19)).and(x -> x.fill(19, 0, 1)).tells("7 not in steam", 19, x -> x.of(0, 5));
        one(1, 20, 0, 0).and(x -> x.guard(0, 20)).tells("7 a spy who is seen goes on", 19, x -> x.of(0, 5));
        one(1, 20, 0, 0).and(x -> x.guard(0, 20)).and(x -> x.guard(1, 19)).tells("7 seen here and there", 20,
            x -> x.of(0, 5));
        Edge general = one(6, 20, 0, 0).and(x -> x.guard(0, 19));
        general.tells("7 a general goes down", 28, x -> x.of(0, 5));
        general.and(x -> x.guard(1, 28)).tells("7 a general is held", 20, x -> x.of(0, 5));
        general.and(x -> x.guard(1, 20)).tells("7 a general who is seen goes down", 28, x -> x.of(0, 5));
    }

    private static void change() {
        int[] most = {6, 47, 1, 99, 7};
        for (int what = 0; what < 5; what++) {
            int w = what;
            for (int v : new int[] {-1, most[what] + 1, Edge.LEAST, Edge.MOST}) {
                settled.refused("8 what " + what + " to " + v, Due.BEYOND, x -> x.change(1, w, v));
                settled.refused("8 what " + what + " of who is out to " + v, Due.BEYOND, x -> x.change(0, w, v));
            }
            for (int bather : new int[] {-1, 6, Edge.LEAST, Edge.MOST}) {
                settled.refused("8 what " + what + " of " + bather, Due.BEYOND, x -> x.change(bather, w, 0));
            }
            fresh.refused("8 what " + what + " of nobody", Due.BEYOND, x -> x.change(0, w, 0));
            crowded.refused("8 what " + what + " of the ninth", Due.BEYOND, x -> x.change(8, w, 0));
            for (int v : new int[] {0, most[what]}) {
                crowded.and(x -> x.change(7, w, v)).tells("8 what " + what + " is " + v, v, x -> x.of(7, w));
                crowded.and(x -> x.change(7, w, v)).does("8 what " + what + " was " + v, v, x -> x.change(7, w, 0));
            }
        }
        for (int what : new int[] {-1, 5, 6, Edge.LEAST, Edge.MOST}) {
            settled.refused("8 what " + what, Due.BEYOND, x -> x.change(1, what, 0));
        }
        settled.refused("8 at 100 is no cell", Due.BEYOND, x -> x.change(1, 1, 100));
        settled.refused("8 at 101 is no cell", Due.BEYOND, x -> x.change(1, 1, 101));
        settled.does("8 was out", 100, x -> x.change(0, 1, 47));
        settled.and(x -> x.change(0, 1, 47)).tells("8 is in again", 0, x -> x.count(2));
    }
}
