/** Promises 18 to 21: ways unseen. */
public final class WaysTest {
    private static final Due due = new Due();

    public static void main(String[] args) {
        open();
        walls();
        steamFor();
        rows();
        wrong();
        due.end();
    }

    private static void open() {
        BathBorder x = new BathBorder();
        for (int cell = 0; cell < 48; cell++) {
            int column = cell % 8;
            due.is("18 west of " + cell, column, x.way(cell, 0));
            due.is("18 east of " + cell, 7 - column, x.way(cell, 1));
            due.is("19 west of " + cell, column == 0 ? cell : cell - 1, x.next(cell, 0));
            due.is("19 east of " + cell, column == 7 ? cell : cell + 1, x.next(cell, 1));
            due.is("20 west of " + cell, 0, x.steamFor(cell, 0));
        }
        due.is("21 any row", 0, x.row());
    }

    /** Guards of sight 0 are walls of one cell. */
    private static void walls() {
        BathBorder x = new BathBorder();
        x.sight(0);
        x.guard(0, 10);
        due.is("18 round a cell", 4, x.way(11, 0));
        due.is("19 of two rounds the least", 3, x.next(11, 0));
        due.is("18 seen first", Due.NONE, x.way(10, 0));
        due.is("19 seen first", Due.NONE, x.next(10, 0));
        x.guard(1, 2);
        due.is("19 the other round", 19, x.next(11, 0));
        due.is("18 a long round", 5, x.way(3, 0));
        due.is("19 a long round", 11, x.next(3, 0));
        x.guard(2, 18);
        x.guard(3, 26);
        due.is("18 round a wall", 7, x.way(3, 0));
        x.sight(1);
        due.is("18 seen now", Due.NONE, x.way(3, 0));
        due.is("18 along the lower edge", 9, x.way(4, 0));
        due.is("18 the other side", 3, x.way(4, 1));
        x.sight(2);
        due.is("18 shut", Due.NONE, x.way(5, 0));
        due.is("19 shut", Due.NONE, x.next(5, 0));
        due.is("18 the last is seen", Due.NONE, lastIsSeen());
        x.sight(12);
        due.is("18 all is seen", Due.NONE, x.way(0, 0));
        due.is("19 all is seen", Due.NONE, x.next(0, 0));
    }

    private static int lastIsSeen() {
        BathBorder x = new BathBorder();
        x.sight(3);
        x.guard(0, 8);
        x.guard(1, 32);
        return x.way(15, 0);
    }

    private static void steamFor() {
        BathBorder x = new BathBorder();
        x.sight(1);
        for (int guard = 0; guard < 4; guard++) {
            x.guard(guard, 8 * guard + 8);
        }
        due.is("20 the upper edge", 1, x.steamFor(7, 0));
        due.is("20 the lower edge", 1, x.steamFor(47, 0));
        x.fill(0, 0, 1);
        due.is("20 steam is there", 0, x.steamFor(7, 0));
        due.is("20 no step", 2, x.steamFor(8, 0));
        due.is("20 a way with the first", 1, x.steamFor(9, 0));
        due.is("20 unseen already", 0, x.steamFor(12, 1));
        x.sight(9);
        due.is("20 too much", Due.NONE, x.steamFor(8, 0));
        x.sight(8);
        due.is("20 just not", 9, x.steamFor(8, 0));
        BathBorder y = new BathBorder();
        y.sight(12);
        y.guard(0, 40);
        due.is("20 the first can't be hidden", Due.NONE, y.steamFor(40, 1));
        due.is("20 the last one", 6, y.steamFor(47, 1));
        y.fill(47, 0, 9);
        due.is("20 steam enough", 0, y.steamFor(47, 1));
    }

    private static void rows() {
        BathBorder x = new BathBorder();
        x.sight(2);
        x.guard(0, 0);
        x.guard(1, 40);
        due.is("21 rows 0 to 5 cost 6 3 1 1 3 6", 2, x.row());
        x.fill(24, 0, 1);
        due.is("21 the cheapest", 3, x.row());
        x.fill(16, 0, 1);
        due.is("21 of several the least", 2, x.row());
        due.is("21 none", Due.NONE, allSeen().row());
    }

    private static BathBorder allSeen() {
        BathBorder x = new BathBorder();
        x.sight(12);
        x.guard(0, 16);
        return x;
    }

    private static void wrong() {
        BathBorder x = new BathBorder();
        int[][] wrong = {{48, 0}, {-1, 0}, {0, 2}, {0, -1}};
        for (int[] w : wrong) {
            due.is("18 wrong " + w[0] + " " + w[1], Due.BEYOND, x.way(w[0], w[1]));
            due.is("19 wrong " + w[0] + " " + w[1], Due.BEYOND, x.next(w[0], w[1]));
            due.is("20 wrong " + w[0] + " " + w[1], Due.BEYOND, x.steamFor(w[0], w[1]));
        }
    }
}
