/** Promises 26 to 32 at their edges: names, keys, taxes, boilers, draws. */
public final class EdgesNamesTest {
    private static final Due due = new Due();
    private static final Edge fresh = Edge.fresh(due);
    private static final Edge settled = Edge.settled(due);
    private static final Edge crowded = Edge.crowded(due);

    public static void main(String[] args) {
        fits();
        fitsAny();
        swaps();
        swap();
        tax();
        boilers();
        steams();
        steamsOrder();
        draws();
        seed();
        due.end();
    }

    private static Edge one(int kind, int cell, int wish) {
        return Edge.one(due, kind, cell, wish);
    }

    private static void fits() {
        for (int s : new int[] {-1, 4, Edge.LEAST, Edge.MOST}) {
            settled.refused("26 sheet " + s, Due.BEYOND, x -> x.fits(s));
        }
        settled.refused("26 missing", Due.MISSING, x -> x.fits(3));
        settled.and(x -> x.sheet(0, 0, 3)).refused("26 missing again", Due.MISSING, x -> x.fits(0));
        fresh.and(x -> x.sheet(3, 8, 2)).tells("26 nobody", 0, x -> x.fits(3));
        settled.tells("26 an empty sheet: all", 63, x -> x.fits(2));
        crowded.tells("26 an empty sheet: all eight", 255, x -> x.fits(2));
        Edge stayer = one(4, 11, 0);
        stayer.and(x -> Due.sheet(x, 0, 8, 0)).tells("26 behind 0 minutes", 1, x -> x.fits(0));
        stayer.and(x -> Due.sheet(x, 0, 8, 1)).tells("26 not behind 0 minutes", 0, x -> x.fits(0));
        stayer.and(x -> x.change(0, 3, 98)).and(x -> Due.sheet(x, 0, 8, 98, 99, 99)).tells("26 99 at most", 1, x -> x.fits(0));
        stayer.and(x -> x.change(0, 3, 98)).and(x -> Due.sheet(x, 0, 8, 98, 99, 100)).tells("26 no 100", 0, x -> x.fits(0));
        Edge out = one(0, 8, 0).and(x -> x.change(0, 3, 5));
        out.and(x -> Due.sheet(x, 0, 8, 5, 5, 5)).tells("26 who gets out", 1, x -> x.fits(0));
        out.and(x -> x.go(1)).and(x -> Due.sheet(x, 0, 8, 5, 5)).tells("26 who is out", 1, x -> x.fits(0));
        Edge spy = one(1, 1, 0).and(x -> x.guard(0, 0)).and(x -> Due.sheet(x, 0, 8, 0, 1, 1));
        spy.tells("26 a spy who is held", 0, x -> x.fits(0));
        spy.and(x -> x.fill(0, 0, 3)).and(x -> x.sight(2)).tells("26 a spy who gets out by less sight", 1, x -> x.fits(0));
        int[] forty = new int[40];
        for (int i = 0; i < 40; i++) {
            forty[i] = i;
        }
        stayer.and(x -> Due.sheet(x, 0, 8, forty)).tells("26 a full sheet", 1, x -> x.fits(0));
        stayer.and(x -> Due.sheet(x, 0, 8, forty)).and(x -> x.write(0, 39, 40)).tells("26 its last number", 0, x -> x.fits(0));
    }

    /** Any is -1, told with the sign of its bits, and no other number. */
    private static void fitsAny() {
        int[][] any = {{8, -1, 1}, {8, 255, 1}, {8, 511, 1}, {8, -2, 0}, {8, 254, 0}, {8, 256, 1}, {16, -1, 1}, {16, 65535, 1},
            {16, 255, 0}, {16, 65536, 1}, {16, 65534, 0}, {32, -1, 1}, {32, 65535, 0}, {32, 255, 0}, {32, 65536, 0},
            {32, Edge.LEAST, 0}, {32, Edge.MOST, 0}};
        for (int[] a : any) {
            one(4, 11, 0).and(x -> Due.sheet(x, 0, a[0], a[1])).tells("26 of " + a[0] + " bits " + a[1], a[2], x -> x.fits(0));
        }
    }

    private static Edge keys(int... keys) {
        return fresh.and(x -> {
            for (int b = 0; b < keys.length; b++) {
                x.bather(0, 0);
                x.change(b, 4, keys[b]);
            }
        });
    }

    private static void swaps() {
        keys().tells("27 nobody", 0, BathBorder::swaps);
        keys(0).tells("27 one", 0, BathBorder::swaps);
        keys(1).refused("27 one with another number", Due.STATE, BathBorder::swaps);
        keys(7).refused("27 one with the greatest number", Due.STATE, BathBorder::swaps);
        keys(1, 0).tells("27 two", 1, BathBorder::swaps);
        keys(0, 0).refused("27 the least twice", Due.STATE, BathBorder::swaps);
        keys(0, 2).refused("27 the first that is no bather's", Due.STATE, BathBorder::swaps);
        keys(0, 1, 2, 3, 4, 5, 6, 7).tells("27 eight in order", 0, BathBorder::swaps);
        keys(1, 2, 3, 4, 5, 6, 7, 0).tells("27 the most swaps", 7, BathBorder::swaps);
        keys(7, 6, 5, 4, 3, 2, 1, 0).tells("27 four pairs", 4, BathBorder::swaps);
        keys(7, 1, 2, 3, 4, 5, 6, 7).refused("27 the greatest twice", Due.STATE, BathBorder::swaps);
    }

    private static void swap() {
        int[][] wrong = {{-1, 0}, {0, -1}, {6, 0}, {0, 6}, {0, 0}, {5, 5}, {6, 6}, {-1, -1}, {Edge.LEAST, 1}, {1, Edge.MOST}};
        for (int[] w : wrong) {
            settled.refused("28 " + w[0] + " and " + w[1], Due.BEYOND, x -> x.swap(w[0], w[1]));
        }
        fresh.refused("28 nobody", Due.BEYOND, x -> x.swap(0, 1));
        crowded.refused("28 the ninth", Due.BEYOND, x -> x.swap(0, 8));
        crowded.refused("28 the ninth first", Due.BEYOND, x -> x.swap(8, 0));
        one(0, 0, 0).refused("28 one alone", Due.BEYOND, x -> x.swap(0, 1));
        keys(3, 3).tells("28 alike", 0, x -> x.swap(0, 1));
        crowded.does("28 the first and the last", 1, x -> x.swap(0, 7));
        crowded.and(x -> x.swap(0, 7)).tells("28 the first's", 7, x -> x.of(0, 4));
        crowded.and(x -> x.swap(0, 7)).tells("28 the last's", 0, x -> x.of(7, 4));
        crowded.and(x -> x.swap(7, 0)).tells("28 the other way", 7, x -> x.of(0, 4));
    }

    private static void tax() {
        for (int n : new int[] {-1, 101, Edge.LEAST, Edge.MOST}) {
            settled.refused("29 n " + n, Due.BEYOND, x -> x.tax(1, n));
        }
        for (int b : new int[] {-1, 6, Edge.LEAST, Edge.MOST}) {
            settled.refused("29 bather " + b, Due.BEYOND, x -> x.tax(b, 1));
        }
        fresh.refused("29 nobody", Due.BEYOND, x -> x.tax(0, 0));
        crowded.refused("29 the ninth", Due.BEYOND, x -> x.tax(8, 0));
        one(4, 15, 0).tells("29 no minute", 0, x -> x.tax(0, 0));
        one(4, 15, 0).tells("29 the column behind one, not ahead of it", 6, x -> x.tax(0, 1));
        one(4, 12, 0).tells("29 a hundred", 400, x -> x.tax(0, 100));
        one(0, 9, 0).tells("29 out on the west", 0, x -> x.tax(0, 100));
        one(0, 14, 1).tells("29 out on the east", 700, x -> x.tax(0, 100));
        one(0, 8, 0).and(x -> x.go(1)).tells("29 out on the west already", 0, x -> x.tax(0, 100));
        one(0, 15, 1).and(x -> x.go(1)).tells("29 out on the east already", 700, x -> x.tax(0, 100));
        one(0, 15, 1).and(x -> x.go(1)).tells("29 out, no minute", 0, x -> x.tax(0, 0));
        Edge spy = one(1, 7, 0).and(x -> x.guard(0, 0));
        spy.tells("29 a spy held at column 5", 6 + 5 * 99, x -> x.tax(0, 100));
        spy.and(x -> x.sight(3)).tells("29 at column 4 by less sight", 6 + 5 + 4 * 98, x -> x.tax(0, 100));
    }

    private static void boilers() {
        for (int n : new int[] {-1, 41, Edge.LEAST, Edge.MOST}) {
            settled.refused("30 n " + n, Due.BEYOND, x -> x.boilers(n, 1));
        }
        for (int k : new int[] {0, -1, 41, Edge.LEAST, Edge.MOST}) {
            settled.refused("30 k " + k, Due.BEYOND, x -> x.boilers(1, k));
            settled.refused("30 k " + k + " of none", Due.BEYOND, x -> x.boilers(0, k));
        }
        fresh.tells("30 no minute, turns of one", 1, x -> x.boilers(0, 1));
        fresh.tells("30 no minute, turns of forty", 1, x -> x.boilers(0, 40));
        fresh.tells("30 one minute, turns of one", 2, x -> x.boilers(1, 1));
        fresh.tells("30 one minute, turns of forty", 2, x -> x.boilers(1, 40));
        fresh.tells("30 two minutes, turns of one", 2, x -> x.boilers(2, 1));
        fresh.tells("30 two minutes, turns of two", 4, x -> x.boilers(2, 2));
        fresh.tells("30 three minutes, turns of two", 6, x -> x.boilers(3, 2));
        fresh.tells("30 forty minutes, turns of one", 2, x -> x.boilers(40, 1));
        fresh.tells("30 more than an int holds", (1L << 40) - 2, x -> x.boilers(40, 39));
        fresh.tells("30 the most", 1L << 40, x -> x.boilers(40, 40));
        fresh.tells("30 as many as an int doesn't hold", 1L << 31, x -> x.boilers(31, 31));
        // A call leaves nothing for the next one.
        fresh.and(x -> x.boilers(40, 40)).tells("30 few behind many", 2, x -> x.boilers(40, 1));
    }

    private static void steams() {
        for (int n : new int[] {0, -1, 21, Edge.LEAST, Edge.MOST}) {
            settled.refused("31 n " + n, Due.BEYOND, x -> x.steams(n));
        }
        fresh.does("31 nobody, once", 0, x -> x.steams(1));
        fresh.does("31 nobody, twenty times", 0, x -> x.steams(20));
        fresh.and(x -> x.steams(1)).tells("31 one minute", 1, x -> x.count(0));
        fresh.and(x -> x.steams(1)).tells("31 one steam", 1, x -> x.count(4));
        fresh.and(x -> x.steams(1)).tells("31 one draw", 1103527590, x -> x.count(6));
        fresh.and(x -> x.steams(20)).tells("31 twenty minutes", 20, x -> x.count(0));
        fresh.and(x -> x.steams(20)).tells("31 twenty steams", 20, x -> x.count(4));
        Edge eight = fresh.and(x -> {
            for (int b = 0; b < 8; b++) {
                x.bather(4, 11);
            }
            x.guard(0, 11);
            x.sight(12);
        });
        eight.does("31 all seen, twenty times", 160, x -> x.steams(20));
        eight.and(x -> x.steams(20)).tells("31 seen ever", 160, x -> x.now(3));
        one(0, 8, 0).and(x -> x.guard(0, 8)).does("31 out is seen no more", 0, x -> x.steams(20));
        Edge most = eight.and(x -> {
            for (int i = 0; i < 208; i++) {
                x.go(60);
            }
            x.go(19);
        });
        most.does("31 counted though seen ever is full", 160, x -> x.steams(20));
        most.and(x -> x.steams(20)).tells("31 seen ever at most", 99999, x -> x.now(3));
    }

    /** A z whose next draw's rest by 48 is such a cell. */
    private static int before(int cell, boolean negative) {
        for (int z = 0; z < 100000; z++) {
            int next = z * 1103515245 + 12345;
            if ((next >>> 8) % 48 == cell && next < 0 == negative) {
                return z;
            }
        }
        throw new IllegalStateException("no such z");
    }

    private static void steamsOrder() {
        Edge stayer = one(4, 11, 0).and(x -> x.guard(0, 11)).and(x -> x.sight(0));
        stayer.and(x -> x.seed(before(11, false))).does("31 steam ahead of the minute", 0, x -> x.steams(1));
        stayer.and(x -> x.seed(before(12, false))).does("31 steam elsewhere", 1, x -> x.steams(1));
        Edge moving = one(0, 12, 0).and(x -> x.guard(0, 11)).and(x -> x.sight(0));
        moving.and(x -> x.seed(before(0, true))).does("31 seen behind the minute", 1, x -> x.steams(1));
        // Steam lets a spy step where it would have been seen.
        Edge spy = one(1, 12, 0).and(x -> x.guard(0, 11)).and(x -> x.sight(0)).and(x -> x.seed(before(11, true)));
        spy.and(x -> x.steams(1)).tells("31 the spy steps into new steam", 11, x -> x.of(0, 1));
    }

    private static void draws() {
        for (int cell : new int[] {0, 47}) {
            for (boolean negative : new boolean[] {false, true}) {
                Edge drawn = fresh.and(x -> x.seed(before(cell, negative)));
                String what = "31 cell " + cell + (negative ? ", z below 0" : ", z above 0");
                drawn.and(x -> x.steams(1)).tells(what, 1, x -> x.cell(cell, 0));
                drawn.and(x -> x.fill(cell, 0, 8)).and(x -> x.steams(1)).tells(what + ", nine", 9, x -> x.cell(cell, 0));
                drawn.and(x -> x.fill(cell, 0, 9)).and(x -> x.steams(1)).tells(what + ", no more", 9, x -> x.cell(cell, 0));
            }
        }
        int[] seeds = {0, 1, -1, Edge.LEAST, Edge.MOST};
        int[] next = {12345, 1103527590, -1103502900, -2147471303, 1043980748};
        for (int i = 0; i < seeds.length; i++) {
            int seed = seeds[i];
            fresh.and(x -> x.seed(seed)).and(x -> x.steams(1)).tells("31 z wraps behind " + seed, next[i], x -> x.count(6));
        }
    }

    private static void seed() {
        fresh.does("32 was at first", 1, x -> x.seed(0));
        for (int v : new int[] {0, -1, Edge.LEAST, Edge.MOST, Due.BEYOND, Due.SIZE}) {
            fresh.and(x -> x.seed(v)).does("32 was " + v, v, x -> x.seed(5));
            fresh.and(x -> x.seed(v)).tells("46 z " + v + " is no finding", v, x -> x.count(6));
        }
    }
}
