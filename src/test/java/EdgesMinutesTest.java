/** Promises 9 to 17 at their edges: minutes, and what will be. */
public final class EdgesMinutesTest {
    private static final Due due = new Due();
    private static final Edge fresh = Edge.fresh(due);
    private static final Edge settled = Edge.settled(due);
    private static final Edge crowded = Edge.crowded(due);

    public static void main(String[] args) {
        go();
        outOrStep();
        wrinkles();
        seenThen();
        lastMinutes();
        now();
        seen();
        ahead();
        aheadOfSight();
        bathersAsked();
        out();
        caught();
        meet();
        meetLate();
        kindFor();
        sightFor();
        due.end();
    }

    private static void go() {
        for (int n : new int[] {0, -1, 61, Edge.LEAST, Edge.MOST}) {
            settled.refused("9 go " + n, Due.BEYOND, x -> x.go(n));
        }
        fresh.does("9 nobody in a minute", 0, x -> x.go(1));
        fresh.does("9 nobody in sixty", 0, x -> x.go(60));
        fresh.and(x -> x.go(1)).tells("9 one minute", 1, x -> x.now(0));
        fresh.and(x -> x.go(60)).tells("9 sixty minutes", 60, x -> x.now(0));
        Edge eight = fresh.and(x -> {
            for (int b = 0; b < 8; b++) {
                x.bather(0, 8 * (b % 6) + 1);
            }
        });
        eight.does("9 none out yet", 0, x -> x.go(1));
        eight.does("9 all out", 8, x -> x.go(2));
        eight.and(x -> x.go(2)).does("9 all out as before", 8, x -> x.go(60));
        eight.and(x -> x.change(3, 2, 1)).does("9 out on both sides together", 8, x -> x.go(60));
    }

    private static Edge one(int kind, int cell, int wish) {
        return Edge.one(due, kind, cell, wish);
    }

    /** Who is in the column of the wish gets out; who comes there gets out in the next minute. */
    private static void outOrStep() {
        for (int kind = 0; kind < 7; kind++) {
            boolean stays = kind == 4;
            for (int row = 0; row < 6; row += 5) {
                one(kind, 8 * row, 0).and(x -> x.go(1)).tells("9 kind " + kind + " out on the west", stays ? 8 * row + 1 : 100,
                    x -> x.of(0, 1));
                one(kind, 8 * row + 7, 1).and(x -> x.go(1)).tells("9 kind " + kind + " out on the east",
                    stays ? 8 * row + 6 : 101, x -> x.of(0, 1));
            }
        }
        one(0, 8, 1).and(x -> x.go(1)).tells("9 the other column is no way out", 9, x -> x.of(0, 1));
        one(0, 9, 0).and(x -> x.go(1)).tells("9 comes to the column", 8, x -> x.of(0, 1));
        one(5, 9, 0).and(x -> x.go(1)).tells("9 a child stays in the column", 8, x -> x.of(0, 1));
        one(5, 10, 0).and(x -> x.go(1)).tells("9 a child comes to the column", 8, x -> x.of(0, 1));
        one(5, 10, 0).and(x -> x.go(2)).tells("9 and is out then", 100, x -> x.of(0, 1));
        one(2, 8, 0).and(x -> x.fill(8, 1, 2)).and(x -> x.go(1)).tells("9 out against the current", 100, x -> x.of(0, 1));
        one(2, 9, 0).and(x -> x.fill(9, 1, 4)).and(x -> x.go(1)).tells("9 carried to the column", 8, x -> x.of(0, 1));
        one(2, 8, 1).and(x -> x.fill(8, 1, 4)).and(x -> x.go(60)).tells("9 held by the wall", 8, x -> x.of(0, 1));
        one(4, 8, 0).and(x -> x.fill(8, 1, 4)).and(x -> x.go(60)).tells("9 a stayer stays", 8, x -> x.of(0, 1));
        one(1, 8, 0).and(x -> x.guard(0, 8)).and(x -> x.go(1)).tells("9 a spy who is seen is out", 100, x -> x.of(0, 1));
        one(6, 8, 0).and(x -> x.go(1)).tells("9 a general is out, not down", 100, x -> x.of(0, 1));
    }

    private static void wrinkles() {
        for (int had : new int[] {0, 97, 98}) {
            one(4, 11, 0).and(x -> x.change(0, 3, had)).and(x -> x.go(1)).tells("9 wrinkles " + had + " and one", had + 1,
                x -> x.of(0, 3));
        }
        one(4, 11, 0).and(x -> x.change(0, 3, 99)).and(x -> x.go(1)).tells("9 wrinkles 99", 99, x -> x.of(0, 3));
        one(4, 11, 0).and(x -> x.go(60)).and(x -> x.go(40)).tells("9 wrinkles in 100 minutes", 99, x -> x.of(0, 3));
        one(0, 8, 0).and(x -> x.change(0, 3, 7)).and(x -> x.go(1)).tells("9 out, no more wrinkles", 7, x -> x.of(0, 3));
        one(0, 8, 0).and(x -> x.go(60)).tells("9 out for long", 0, x -> x.of(0, 3));
    }

    /** Seen is who is in yet, where one is then. */
    private static void seenThen() {
        Edge bather = one(0, 12, 0).and(x -> x.sight(0));
        bather.and(x -> x.guard(0, 12)).and(x -> x.go(1)).tells("9 left the cell that is seen", 0, x -> x.now(3));
        bather.and(x -> x.guard(0, 11)).and(x -> x.go(1)).tells("9 came to a cell that is seen", 1, x -> x.now(3));
        bather.and(x -> x.guard(0, 11)).and(x -> x.guard(1, 11)).and(x -> x.go(1)).tells("9 seen by two is once", 1,
            x -> x.now(3));
        one(0, 8, 0).and(x -> x.guard(0, 8)).and(x -> x.go(1)).tells("9 out from a cell that is seen", 0, x -> x.now(3));
        one(4, 11, 0).and(x -> x.guard(0, 11)).tells("9 none without a minute", 0, x -> x.now(3));
        Edge eight = fresh.and(x -> {
            for (int b = 0; b < 8; b++) {
                x.bather(4, 11);
            }
            x.guard(0, 11);
        });
        eight.and(x -> x.go(1)).tells("9 all are seen", 8, x -> x.now(3));
        eight.and(x -> goes(x, 208)).and(x -> x.go(19)).tells("9 seen ever just below", 99992, x -> x.now(3));
        eight.and(x -> goes(x, 208)).and(x -> x.go(20)).tells("9 seen ever at most", 99999, x -> x.now(3));
        eight.and(x -> goes(x, 209)).tells("9 seen ever no more", 99999, x -> x.count(3));
    }

    private static void goes(BathBorder x, int times) {
        for (int i = 0; i < times; i++) {
            x.go(60);
        }
    }

    /** This takes more calls than an object is promised for; no fewer come to the last minute. */
    private static void lastMinutes() {
        Edge late = settled.and(x -> goes(x, 1666)).and(x -> x.go(16));
        late.tells("9 late", 99979, x -> x.now(0));
        late.refused("9 one too many", Due.STATE, x -> x.go(21));
        late.refused("9 far too many", Due.STATE, x -> x.go(60));
        late.refused("9 beyond ahead of state", Due.BEYOND, x -> x.go(61));
        late.and(x -> x.go(20)).tells("9 just not too many", 99999, x -> x.now(0));
        Edge last = late.and(x -> x.go(20));
        last.refused("9 no minute more", Due.STATE, x -> x.go(1));
        last.refused("9 none is beyond all the same", Due.BEYOND, x -> x.go(0));
        last.refused("31 no minute more", Due.STATE, x -> x.steams(1));
        last.refused("31 beyond ahead of state", Due.BEYOND, x -> x.steams(21));
        late.and(x -> x.go(1)).refused("31 one too many", Due.STATE, x -> x.steams(20));
        late.and(x -> x.steams(20)).tells("31 just not too many", 99999, x -> x.now(0));
    }

    private static void now() {
        for (int what : new int[] {-1, 6, Edge.LEAST, Edge.MOST}) {
            settled.refused("10 what " + what, Due.BEYOND, x -> x.now(what));
        }
        settled.tells("10 minute", 3, x -> x.now(0));
        settled.tells("10 the first is out on the west", 1, x -> x.now(1));
        settled.tells("10 sight", 5, x -> x.now(4));
        for (int wish = 0; wish < 2; wish++) {
            int side = wish;
            Edge all = fresh.and(x -> {
                for (int b = 0; b < 8; b++) {
                    x.bather(0, 7 * side);
                    x.change(b, 2, side);
                }
            });
            all.tells("10 none out on side " + side, 0, x -> x.now(1 + side));
            all.and(x -> x.go(1)).tells("10 all out on side " + side, 255, x -> x.now(1 + side));
            all.and(x -> x.go(1)).tells("10 none out on the other side than " + side, 0, x -> x.now(2 - side));
        }
        fresh.tells("10 no cell is seen", 0, x -> x.now(5));
        fresh.and(x -> x.guard(0, 0)).and(x -> x.sight(12)).tells("10 all cells are seen", 48, x -> x.now(5));
    }

    private static void seen() {
        fresh.tells("11 none", 0, BathBorder::seen);
        Edge near = fresh.and(x -> x.sight(0));
        near.and(x -> x.guard(0, 0)).tells("11 the first cell", 1, BathBorder::seen);
        near.and(x -> x.guard(3, 47)).tells("11 the last cell", 1L << 47, BathBorder::seen);
        near.and(x -> x.guard(0, 31)).tells("11 bit 31", 1L << 31, BathBorder::seen);
        near.and(x -> x.guard(0, 32)).tells("11 bit 32", 1L << 32, BathBorder::seen);
        fresh.and(x -> x.guard(1, 47)).and(x -> x.sight(12)).tells("11 all", (1L << 48) - 1, BathBorder::seen);
        fresh.and(x -> x.guard(1, 47)).and(x -> x.guard(1, -1)).tells("11 nowhere sees none", 0, BathBorder::seen);
    }

    private static void ahead() {
        for (int n : new int[] {-1, 101, Edge.LEAST, Edge.MOST}) {
            settled.refused("12 n " + n, Due.BEYOND, x -> x.ahead(1, n));
        }
        settled.tells("12 out, in 0", 100, x -> x.ahead(0, 0));
        settled.tells("12 out, in 100", 100, x -> x.ahead(0, 100));
        one(0, 10, 0).tells("12 in 0", 10, x -> x.ahead(0, 0));
        one(0, 10, 0).tells("12 in 2, in the column", 8, x -> x.ahead(0, 2));
        one(0, 10, 0).tells("12 in 3, out", 100, x -> x.ahead(0, 3));
        one(0, 10, 0).tells("12 in 100", 100, x -> x.ahead(0, 100));
        one(0, 15, 1).tells("12 out on the east", 101, x -> x.ahead(0, 1));
        one(4, 0, 0).and(Edge::allCells).tells("12 in 46, the last but one", 41, x -> x.ahead(0, 46));
        one(4, 0, 0).and(Edge::allCells).tells("12 in 100, the last of all cells", 40, x -> x.ahead(0, 100));
        // To and fro between two cells: an even number of minutes comes back.
        Edge fro = one(2, 20, 0).and(x -> x.fill(20, 1, 2)).and(x -> x.fill(21, 1, 4));
        fro.tells("12 in 99, fro", 21, x -> x.ahead(0, 99));
        fro.tells("12 in 100, to", 20, x -> x.ahead(0, 100));
    }

    /** A spy comes as far as sight leaves it: one cell more by one sight less. */
    private static void aheadOfSight() {
        for (int sight = 3; sight <= 5; sight++) {
            int v = sight;
            Edge spy = one(1, 7, 0).and(x -> x.guard(0, 0)).and(x -> x.sight(v));
            spy.tells("12 a spy by sight " + v, v + 1, x -> x.ahead(0, 100));
            spy.refused("13 a spy by sight " + v, Due.NONE, x -> x.out(0));
            spy.and(x -> x.bather(4, v + 1)).and(x -> x.fill(v + 1, 1, 1)).tells("15 a spy by sight " + v, 6 - v,
                x -> x.meet(0, 1));
            spy.and(x -> x.bather(4, v)).and(x -> x.fill(v, 1, 1)).refused("15 not so far by sight " + v, Due.NONE,
                x -> x.meet(0, 1));
            spy.and(x -> x.fill(v, 0, 1)).tells("12 steam lets it one cell farther, sight " + v, v, x -> x.ahead(0, 100));
        }
        Edge hidden = one(1, 1, 0).and(x -> x.guard(0, 0));
        hidden.and(x -> x.fill(0, 0, 5)).tells("13 steam hides the last cell", 2, x -> x.out(0));
        hidden.and(x -> x.fill(0, 0, 4)).refused("13 steam hides it not enough", Due.NONE, x -> x.out(0));
        hidden.and(x -> x.fill(0, 0, 4)).and(x -> x.sight(3)).tells("13 but by less sight", 2, x -> x.out(0));
    }

    /** The numbers of bathers that these acts take: those that there are. */
    private static void bathersAsked() {
        for (int b : new int[] {-1, 6, Edge.LEAST, Edge.MOST}) {
            asked("of six, " + b, settled, b);
        }
        asked("nobody", fresh, 0);
        asked("the ninth", crowded, 8);
    }

    private static void asked(String what, Edge edge, int b) {
        edge.refused("12 " + what, Due.BEYOND, x -> x.ahead(b, 0));
        edge.refused("13 " + what, Due.BEYOND, x -> x.out(b));
        edge.refused("14 " + what, Due.BEYOND, x -> x.caught(b));
        edge.refused("15 " + what + " first", Due.BEYOND, x -> x.meet(b, 0));
        edge.refused("15 " + what + " second", Due.BEYOND, x -> x.meet(0, b));
        edge.refused("15 " + what + " twice", Due.BEYOND, x -> x.meet(b, b));
        edge.refused("16 " + what, Due.BEYOND, x -> x.kindFor(b));
        edge.refused("17 " + what, Due.BEYOND, x -> x.sightFor(b));
    }

    private static void out() {
        settled.tells("13 out already", 0, x -> x.out(0));
        one(0, 8, 0).tells("13 in the column", 1, x -> x.out(0));
        one(0, 7, 0).tells("13 across", 8, x -> x.out(0));
        one(5, 7, 0).tells("13 a child across", 5, x -> x.out(0));
        one(2, 7, 0).and(Edge::longWay).tells("13 the longest way", 43, x -> x.out(0));
        one(2, 7, 1).and(Edge::longWay).tells("13 there already", 1, x -> x.out(0));
        one(2, 8, 1).and(Edge::longWay).refused("13 a floater without current", Due.NONE, x -> x.out(0));
        one(4, 8, 0).refused("13 a stayer in the column", Due.NONE, x -> x.out(0));
        one(1, 9, 0).and(x -> x.sight(0)).and(x -> x.guard(0, 8)).refused("13 a spy is held", Due.NONE, x -> x.out(0));
        crowded.tells("13 the eighth", 8, x -> x.out(7));
    }

    private static void caught() {
        Edge last = one(4, 0, 0).and(Edge::allCells).and(x -> x.sight(0)).and(x -> x.guard(0, 40));
        last.tells("14 in the last of all cells", 47, x -> x.caught(0));
        last.and(x -> x.fill(40, 0, 1)).refused("14 not in steam", Due.NONE, x -> x.caught(0));
        last.and(x -> x.guard(0, 0)).tells("14 now", 0, x -> x.caught(0));
        last.and(x -> x.guard(0, 1)).tells("14 in a minute", 1, x -> x.caught(0));
        one(0, 8, 0).and(x -> x.guard(0, 9)).and(x -> x.sight(0)).refused("14 out ahead of it", Due.NONE, x -> x.caught(0));
        one(0, 8, 0).and(x -> x.go(1)).and(x -> x.guard(0, 8)).refused("14 out is at no cell", Due.NONE, x -> x.caught(0));
        one(0, 8, 0).refused("14 no guard", Due.NONE, x -> x.caught(0));
    }

    private static void meet() {
        settled.refused("15 one and the same", Due.BEYOND, x -> x.meet(1, 1));
        settled.refused("15 one and the same, out", Due.BEYOND, x -> x.meet(0, 0));
        Edge two = one(0, 12, 0).and(x -> x.bather(0, 12));
        two.tells("15 now", 0, x -> x.meet(0, 1));
        two.and(x -> x.change(1, 1, 11)).refused("15 one behind the other", Due.NONE, x -> x.meet(0, 1));
        two.and(x -> x.change(1, 1, 13)).and(x -> x.change(1, 0, 5)).tells("15 in a minute", 1, x -> x.meet(1, 0));
        two.and(x -> x.change(1, 2, 1)).and(x -> x.change(1, 1, 11)).refused("15 past one another", Due.NONE,
            x -> x.meet(0, 1));
        two.and(x -> x.change(1, 2, 1)).and(x -> x.change(1, 1, 10)).tells("15 on the way", 1, x -> x.meet(0, 1));
        two.and(x -> x.go(60)).refused("15 both out on one side", Due.NONE, x -> x.meet(0, 1));
        two.and(x -> x.change(1, 1, 11)).and(x -> x.go(4)).refused("15 one is out", Due.NONE, x -> x.meet(0, 1));
        Edge far = one(4, 0, 0).and(Edge::allCells).and(x -> x.bather(4, 40));
        far.tells("15 in the last of all cells", 47, x -> x.meet(0, 1));
        far.tells("15 there, the other first", 47, x -> x.meet(1, 0));
    }

    /** A stayer goes round ahead of a floater, who rests in cell 9 when it comes by again. */
    private static void meetLate() {
        Edge late = one(2, 41, 0).and(Edge::ring).and(x -> x.bather(4, 33));
        late.tells("15 a stayer's second time", 85, x -> x.meet(0, 1));
        late.tells("15 a stayer's second time, the other first", 85, x -> x.meet(1, 0));
        late.and(x -> x.go(60)).tells("15 the rest of it", 25, x -> x.meet(0, 1));
        late.tells("12 the floater rests", 9, x -> x.ahead(0, 85));
        late.tells("12 the stayer comes", 9, x -> x.ahead(1, 85));
        late.and(x -> x.fill(9, 1, 2)).refused("15 the floater goes on and out", Due.NONE, x -> x.meet(0, 1));
        late.and(x -> x.change(0, 0, 4)).refused("15 one behind the other, round and round", Due.NONE, x -> x.meet(0, 1));
    }

    private static void kindFor() {
        one(4, 8, 0).tells("16 in the column: the least kind", 0, x -> x.kindFor(0));
        one(4, 9, 0).tells("16 a column off: a child is no sooner", 0, x -> x.kindFor(0));
        one(4, 10, 0).tells("16 two columns off: a child is", 5, x -> x.kindFor(0));
        one(0, 5, 1).tells("16 to the east", 5, x -> x.kindFor(0));
        settled.tells("16 out: the least kind", 0, x -> x.kindFor(0));
        crowded.tells("16 the eighth", 5, x -> x.kindFor(7));
    }

    private static void sightFor() {
        one(0, 12, 0).tells("17 no guard", 12, x -> x.sightFor(0));
        one(0, 8, 0).and(x -> x.go(1)).and(x -> x.guard(0, 8)).tells("17 out", 12, x -> x.sightFor(0));
        one(0, 12, 0).and(x -> x.guard(0, 12)).refused("17 seen now by any sight", Due.NONE, x -> x.sightFor(0));
        one(0, 12, 0).and(x -> x.guard(0, 8)).refused("17 seen then by any sight", Due.NONE, x -> x.sightFor(0));
        one(0, 12, 0).and(x -> x.guard(0, 16)).tells("17 the least sight", 0, x -> x.sightFor(0));
        one(4, 3, 0).and(x -> x.guard(0, 47)).tells("17 nine apart", 8, x -> x.sightFor(0));
        one(2, 0, 1).and(x -> x.guard(0, 47)).tells("17 twelve apart", 11, x -> x.sightFor(0));
        one(2, 0, 1).and(x -> x.guard(0, 47)).and(x -> x.fill(0, 0, 1)).tells("17 twelve apart in steam", 12,
            x -> x.sightFor(0));
        one(2, 0, 1).and(x -> x.guard(0, 0)).and(x -> x.fill(0, 0, 9)).tells("17 steam 9 at its own cell", 8,
            x -> x.sightFor(0));
        one(4, 0, 0).and(Edge::allCells).and(x -> x.guard(0, 40)).refused("17 in the last of all cells", Due.NONE,
            x -> x.sightFor(0));
    }
}
