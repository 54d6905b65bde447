/** Promises 22 to 25: guards. */
public final class GuardsTest {
    private static final Due due = new Due();

    public static void main(String[] args) {
        post();
        trap();
        enough();
        due.end();
    }

    private static void post() {
        BathBorder x = new BathBorder();
        x.sight(0);
        due.is("22 of several the least", 0, x.post(0));
        due.is("23 one", 1, x.posted(0));
        x.sight(1);
        due.is("22 no edge", 9, x.post(3));
        due.is("23 five", 5, x.posted(3));
        x.guard(0, 9);
        due.is("22 alone: others don't matter", 9, x.post(1));
        x.fill(9, 0, 1);
        x.fill(1, 0, 9);
        due.is("22 steam", 11, x.post(0));
        due.is("23 steam", 5, x.posted(0));
        x.sight(12);
        due.is("22 all but steam", 0, x.post(0));
        due.is("23 all but steam", 48, x.posted(0));
        for (int cell = 0; cell < 48; cell++) {
            x.fill(cell, 0, 9);
        }
        x.sight(8);
        due.is("22 nothing", 0, x.post(2));
        due.is("23 nothing", 0, x.posted(2));
        due.is("22 beyond", Due.BEYOND, x.post(4));
        due.is("22 below", Due.BEYOND, x.post(-1));
        due.is("23 beyond", Due.BEYOND, x.posted(4));
        due.is("23 below", Due.BEYOND, x.posted(-1));
        due.is("22 the guard is where it was", 9, x.guard(0, -1));
    }

    private static void trap() {
        BathBorder x = new BathBorder();
        x.bather(0, 47);
        x.bather(1, 23);
        x.sight(0);
        due.is("24 where it is", 47, x.trap(0, 0));
        x.fill(47, 0, 1);
        due.is("24 where it will be", 46, x.trap(0, 0));
        x.sight(1);
        due.is("24 the least that sees it now", 47, x.trap(0, 0));
        x.fill(47, 0, 0);
        due.is("24 beside it", 39, x.trap(0, 0));
        x.guard(1, 47);
        due.is("24 another sees it", 0, x.trap(0, 0));
        due.is("24 that one itself", 39, x.trap(1, 0));
        due.is("24 the guard is where it was", 47, x.guard(1, -1));
        x.guard(0, 47);
        due.is("24 the first guard sees it", 0, x.trap(3, 0));
        x.guard(0, -1);
        sooner();
        x.sight(0);
        x.fill(23, 0, 1);
        due.is("24 a spy in steam goes round a guard", Due.NONE, x.trap(0, 1));
        int[][] wrong = {{4, 0}, {-1, 0}, {0, 2}, {0, -1}};
        for (int[] w : wrong) {
            due.is("24 wrong " + w[0] + " " + w[1], Due.BEYOND, x.trap(w[0], w[1]));
        }
        x.change(0, 1, 0);
        x.go(1);
        due.is("24 out", Due.NONE, x.trap(0, 0));
    }

    /** Whoever goes east comes to greater cells later. */
    private static void sooner() {
        BathBorder x = new BathBorder();
        x.bather(0, 40);
        x.change(0, 2, 1);
        x.sight(0);
        x.fill(40, 0, 1);
        due.is("24 the soonest", 41, x.trap(0, 0));
        x.change(0, 1, 0);
        x.fill(0, 0, 1);
        x.guard(1, 3);
        due.is("24 sooner than another", 1, x.trap(0, 0));
        x.fill(1, 0, 1);
        x.fill(2, 0, 1);
        due.is("24 another sees it as soon", 0, x.trap(0, 0));
    }

    private static void enough() {
        BathBorder x = new BathBorder();
        due.is("25 nothing is seen", 0, x.enough());
        x.sight(1);
        x.guard(2, 9);
        due.is("25 one", 4, x.enough());
        x.guard(1, 9);
        due.is("25 of several the least", 2, x.enough());
        x.guard(3, 47);
        due.is("25 two", 10, x.enough());
        x.guard(0, 20);
        due.is("25 three", 11, x.enough());
        x.guard(2, 40);
        due.is("25 all", 15, x.enough());
        x.sight(12);
        due.is("25 each sees all", 1, x.enough());
        x.guard(0, -1);
        due.is("25 but one who is nowhere", 2, x.enough());
        fewestAheadOfLeast();
    }

    /** Guards 0 and 1 see together what guard 2 sees alone. */
    private static void fewestAheadOfLeast() {
        BathBorder x = new BathBorder();
        x.sight(1);
        x.guard(0, 0);
        x.guard(1, 2);
        x.guard(2, 1);
        x.fill(8, 0, 1);
        x.fill(10, 0, 1);
        x.fill(3, 0, 1);
        x.fill(9, 0, 1);
        due.is("25 seen", Due.set(0, 1, 2), x.seen());
        due.is("25 fewest ahead of least", 4, x.enough());
    }
}
