/** Promises 18 to 25 at their edges: ways unseen, guards. */
public final class EdgesWaysTest {
    private static final Due due = new Due();
    private static final Edge fresh = Edge.fresh(due);
    private static final Edge settled = Edge.settled(due);
    private static final Edge crowded = Edge.crowded(due);

    public static void main(String[] args) {
        wrong();
        way();
        next();
        maze();
        steamFor();
        row();
        post();
        trap();
        trapOfLongWay();
        enough();
        due.end();
    }

    private static void wrong() {
        for (int cell : new int[] {-1, 48, Edge.LEAST, Edge.MOST}) {
            waysRefused("cell " + cell, cell, 0);
        }
        for (int side : new int[] {-1, 2, 7, Edge.LEAST, Edge.MOST}) {
            waysRefused("side " + side, 0, side);
        }
        for (int guard : new int[] {-1, 4, Edge.LEAST, Edge.MOST}) {
            settled.refused("22 guard " + guard, Due.BEYOND, x -> x.post(guard));
            settled.refused("23 guard " + guard, Due.BEYOND, x -> x.posted(guard));
            settled.refused("24 guard " + guard, Due.BEYOND, x -> x.trap(guard, 1));
        }
        for (int b : new int[] {-1, 6, Edge.LEAST, Edge.MOST}) {
            settled.refused("24 bather " + b, Due.BEYOND, x -> x.trap(0, b));
        }
        fresh.refused("24 nobody", Due.BEYOND, x -> x.trap(0, 0));
        crowded.refused("24 the ninth", Due.BEYOND, x -> x.trap(3, 8));
        settled.refused("24 both", Due.BEYOND, x -> x.trap(4, 6));
    }

    private static void waysRefused(String what, int cell, int side) {
        settled.refused("18 " + what, Due.BEYOND, x -> x.way(cell, side));
        settled.refused("19 " + what, Due.BEYOND, x -> x.next(cell, side));
        settled.refused("20 " + what, Due.BEYOND, x -> x.steamFor(cell, side));
    }

    private static Edge walls(int... cells) {
        return fresh.and(x -> {
            x.sight(0);
            for (int guard = 0; guard < cells.length; guard++) {
                x.guard(guard, cells[guard]);
            }
        });
    }

    private static void way() {
        for (int row = 0; row < 6; row += 5) {
            int west = 8 * row;
            int east = west + 7;
            fresh.tells("18 no step from " + west, 0, x -> x.way(west, 0));
            fresh.tells("18 across from " + west, 7, x -> x.way(west, 1));
            fresh.tells("18 no step from " + east, 0, x -> x.way(east, 1));
            fresh.tells("18 across from " + east, 7, x -> x.way(east, 0));
        }
        walls(8).refused("18 no step, but seen", Due.NONE, x -> x.way(8, 0));
        walls(9).refused("18 the first is seen", Due.NONE, x -> x.way(9, 0));
        walls(8).tells("18 the last would be seen: to another", 2, x -> x.way(9, 0));
        walls(1, 8).tells("18 shut in, but no step", 0, x -> x.way(0, 0));
        walls(1, 8).refused("18 shut in", Due.NONE, x -> x.way(0, 1));
        walls(46, 39).refused("18 shut in the last cell", Due.NONE, x -> x.way(47, 0));
        walls(46).tells("18 round by the cell above", 8, x -> x.way(47, 0));
        // No way leads from the end of a row to the begin of the next one.
        walls(6, 14, 7).refused("18 no step round the edge", Due.NONE, x -> x.way(7, 0));
        walls(6, 14, 22, 23).refused("18 two cells at the edge", Due.NONE, x -> x.way(15, 0));
        fresh.and(x -> x.sight(12)).and(x -> x.guard(0, 0)).refused("18 all are seen", Due.NONE, x -> x.way(47, 1));
    }

    private static void next() {
        fresh.tells("19 no step in the first cell", 0, x -> x.next(0, 0));
        fresh.tells("19 no step in the last cell", 47, x -> x.next(47, 1));
        fresh.tells("19 to the first cell", 0, x -> x.next(1, 0));
        fresh.tells("19 to the last cell", 47, x -> x.next(46, 1));
        walls(8).refused("19 no step, but seen", Due.NONE, x -> x.next(8, 0));
        walls(46, 39).refused("19 shut in", Due.NONE, x -> x.next(47, 0));
        walls(46, 39).tells("19 shut in, but no step", 47, x -> x.next(47, 1));
        walls(19).tells("19 up rather than down", 12, x -> x.next(20, 0));
        walls(19, 12).tells("19 down", 28, x -> x.next(20, 0));
        walls(19, 12, 28).tells("19 back", 21, x -> x.next(20, 0));
        walls(18).tells("19 left as well as round, the least", 11, x -> x.next(19, 0));
        walls(10).tells("19 up would be shut: left is least", 17, x -> x.next(18, 0));
    }

    /** One way alone is free, 27 steps from cell 7 to cell 0, up and down columns 7, 5, 3 and 1: steam 9 hides it. */
    private static void maze() {
        Edge maze = fresh.and(x -> {
            x.guard(0, 19);
            x.sight(7);
            for (int cell = 0; cell < 48; cell++) {
                int column = cell % 8;
                boolean joint = column == 6 || column == 2 ? cell >= 40 : cell < 8 && (column == 4 || column == 0);
                if (column % 2 == 1 || joint) {
                    x.fill(cell, 0, 9);
                }
            }
        });
        maze.tells("18 the whole maze", 27, x -> x.way(7, 0));
        maze.tells("18 back to the column, not to the cell", 22, x -> x.way(0, 1));
        maze.tells("18 from its middle", 13, x -> x.way(3, 0));
        maze.refused("18 from outside it", Due.NONE, x -> x.way(6, 0));
        maze.tells("19 away from the side at first", 15, x -> x.next(7, 0));
        maze.tells("19 round the turn", 46, x -> x.next(47, 0));
        maze.tells("20 nothing more", 0, x -> x.steamFor(7, 0));
        // A cell of the way that is seen shuts it; any number of steps is as good as few.
        maze.and(x -> x.fill(4, 0, 3)).refused("18 seen within", Due.NONE, x -> x.way(7, 0));
        maze.and(x -> x.fill(4, 0, 3)).tells("20 a little within", 2, x -> x.steamFor(7, 0));
    }

    private static void steamFor() {
        Edge corner = fresh.and(x -> x.guard(0, 0));
        corner.and(x -> x.sight(8)).tells("20 nine more of one", 9, x -> x.steamFor(0, 0));
        corner.and(x -> x.sight(9)).refused("20 ten more of one", Due.NONE, x -> x.steamFor(0, 0));
        corner.and(x -> x.sight(8)).and(x -> x.fill(0, 0, 8)).tells("20 one more to nine", 1, x -> x.steamFor(0, 0));
        corner.and(x -> x.sight(8)).and(x -> x.fill(0, 0, 9)).tells("20 nine already", 0, x -> x.steamFor(0, 0));
        corner.and(x -> x.sight(9)).and(x -> x.fill(0, 0, 9)).refused("20 nine, and still seen", Due.NONE, x -> x.steamFor(0, 0));
        corner.and(x -> x.sight(0)).tells("20 the first alone", 1, x -> x.steamFor(0, 1));
        corner.and(x -> x.sight(0)).tells("20 round the last", 0, x -> x.steamFor(9, 0));
        corner.and(x -> x.sight(12)).refused("20 the first can't be hidden", Due.NONE, x -> x.steamFor(3, 1));
        corner.and(x -> x.sight(12)).tells("20 four off, it can", 9 + 8 + 7 + 6, x -> x.steamFor(4, 1));
        walls(0, 8, 16, 24).tells("20 a long way for nothing", 0, x -> x.steamFor(1, 0));
        fresh.and(x -> x.sight(0)).and(x -> x.guard(0, 9)).and(x -> x.guard(1, 9)).tells("20 by two guards, once", 1,
            x -> x.steamFor(9, 0));
        fresh.tells("20 nothing is seen", 0, x -> x.steamFor(47, 0));
        fresh.tells("20 in the last cell", 0, x -> x.steamFor(47, 1));
    }

    private static void row() {
        fresh.tells("21 nothing is seen: the least row", 0, BathBorder::row);
        walls(0, 8, 16, 24).tells("21 the first row unseen", 4, BathBorder::row);
        walls(0, 8, 16).and(x -> x.guard(3, 47)).tells("21 the row between", 3, BathBorder::row);
        Edge ends = fresh.and(x -> x.guard(0, 0)).and(x -> x.guard(1, 40));
        ends.and(x -> x.sight(10)).tells("21 rows 2 and 3 by nine at most", 2, BathBorder::row);
        ends.and(x -> x.sight(10)).and(x -> x.fill(24, 0, 1)).tells("21 steam is there already", 3, BathBorder::row);
        ends.and(x -> x.sight(11)).refused("21 each row wants ten", Due.NONE, BathBorder::row);
        Edge last = fresh.and(x -> x.guard(0, 0)).and(x -> x.sight(12));
        last.tells("21 the last row", 5, BathBorder::row);
    }

    private static void post() {
        fresh.and(x -> x.sight(0)).tells("22 of all the least", 0, x -> x.post(0));
        fresh.and(x -> x.sight(0)).tells("23 its own cell", 1, x -> x.posted(3));
        fresh.and(x -> x.sight(12)).tells("22 all cells from each", 0, x -> x.post(3));
        fresh.and(x -> x.sight(12)).tells("23 all cells", 48, x -> x.posted(0));
        Edge steam = fresh.and(x -> {
            for (int cell = 0; cell < 48; cell++) {
                x.fill(cell, 0, cell == 47 ? 0 : 9);
            }
            x.sight(0);
        });
        steam.tells("22 the last cell", 47, x -> x.post(1));
        steam.tells("23 the last cell", 1, x -> x.posted(1));
        steam.and(x -> x.fill(47, 0, 9)).tells("22 no cell: the least", 0, x -> x.post(1));
        steam.and(x -> x.fill(47, 0, 9)).tells("23 no cell", 0, x -> x.posted(1));
        // Alone: neither where guards are nor which one it is tells anything.
        Edge guarded = fresh.and(x -> x.sight(1)).and(x -> x.guard(0, 9)).and(x -> x.guard(1, 10));
        for (int guard = 0; guard < 4; guard++) {
            int g = guard;
            guarded.tells("22 guard " + guard + " alone", 9, x -> x.post(g));
            guarded.tells("23 guard " + guard + " alone", 5, x -> x.posted(g));
        }
    }

    private static Edge one(int kind, int cell, int wish) {
        return Edge.one(due, kind, cell, wish).and(x -> x.sight(0));
    }

    private static void trap() {
        one(0, 0, 0).tells("24 at the first cell now", 0, x -> x.trap(0, 0));
        one(0, 47, 1).tells("24 at the last cell now", 47, x -> x.trap(3, 0));
        one(0, 47, 1).and(x -> x.sight(1)).tells("24 of several the least", 39, x -> x.trap(0, 0));
        one(0, 12, 0).and(x -> x.guard(1, 12)).tells("24 another sees it now: the least of all", 0, x -> x.trap(0, 0));
        one(0, 12, 0).and(x -> x.guard(1, 12)).tells("24 this one sees it now: where it is", 12, x -> x.trap(1, 0));
        one(0, 12, 0).and(x -> x.fill(12, 0, 1)).and(x -> x.guard(1, 11)).tells("24 another as soon as any", 0, x -> x.trap(0, 0));
        one(0, 12, 0).and(x -> x.fill(12, 0, 1)).and(x -> x.guard(1, 10)).tells("24 sooner than another", 11, x -> x.trap(0, 0));
        one(4, 12, 0).and(x -> x.fill(12, 0, 1)).refused("24 hidden where it stays", Due.NONE, x -> x.trap(0, 0));
        one(0, 0, 0).and(x -> x.fill(0, 0, 1)).refused("24 out ahead of all", Due.NONE, x -> x.trap(0, 0));
        one(0, 0, 0).and(x -> x.go(1)).refused("24 out already", Due.NONE, x -> x.trap(0, 0));
        settled.refused("24 out on the west", Due.NONE, x -> x.trap(0, 0));
        one(0, 12, 0).and(x -> x.guard(0, 12)).tells("24 the first guard sees it now", 0, x -> x.trap(3, 0));
        one(0, 12, 0).and(x -> x.guard(3, 12)).tells("24 the last guard sees it now", 0, x -> x.trap(2, 0));
        crowded.tells("24 the eighth is seen", 0, x -> x.trap(0, 7));
    }

    /** A stayer in steam all along 47 steps, but for the last cell. */
    private static void trapOfLongWay() {
        Edge hidden = one(4, 0, 0).and(Edge::allCells).and(x -> {
            for (int cell = 0; cell < 48; cell++) {
                x.fill(cell, 0, cell == 40 ? 0 : 1);
            }
        });
        hidden.tells("24 in the last of all cells", 40, x -> x.trap(2, 0));
        hidden.and(x -> x.fill(40, 0, 1)).refused("24 in none of all cells", Due.NONE, x -> x.trap(2, 0));
    }

    private static void enough() {
        fresh.tells("25 no guard", 0, BathBorder::enough);
        walls(0).tells("25 the first", 1, BathBorder::enough);
        walls(0, 1, 2, 3).tells("25 all", 15, BathBorder::enough);
        walls(0, 0, 0, 0).tells("25 any of all: the least", 1, BathBorder::enough);
        walls(-1, -1, -1, 5).tells("25 the last alone", 8, BathBorder::enough);
        walls(-1, 5, 5, 5).tells("25 of several the least", 2, BathBorder::enough);
        walls(1, 2, 1, 2).tells("25 of pairs the least", 3, BathBorder::enough);
        walls(1, 1, 1, 2).tells("25 a pair with the last", 9, BathBorder::enough);
        walls(1, 2, 3, 4).and(x -> x.fill(1, 0, 1)).tells("25 one who sees nothing is left out", 14, BathBorder::enough);
        walls(1).and(x -> x.fill(1, 0, 1)).tells("25 guards who see nothing", 0, BathBorder::enough);
        walls(0, 2, 1).and(x -> x.sight(12)).tells("25 each sees all", 1, BathBorder::enough);
    }
}
