/** Promises 1 to 8: a new object, the bath, guards, bathers. */
public final class BathTest {
    private static final Due due = new Due();

    public static void main(String[] args) {
        newObject();
        fill();
        cell();
        guard();
        sight();
        bather();
        of();
        steps();
        change();
        due.end();
    }

    private static void newObject() {
        BathBorder x = new BathBorder();
        for (int cell = 0; cell < 48; cell++) {
            for (int what = 0; what < 4; what++) {
                due.is("1 cell " + cell + " " + what, 0, x.cell(cell, what));
            }
        }
        for (int what = 0; what < 8; what++) {
            due.is("1 count " + what, what == 6 ? 1 : 0, x.count(what));
        }
        for (int what = 0; what < 6; what++) {
            due.is("1 now " + what, what == 4 ? 4 : 0, x.now(what));
        }
        for (int which = -1; which < 7; which++) {
            due.is("1 status " + which, 0, x.status(which));
        }
        due.is("1 seen", 0, x.seen());
        due.is("1 of", Due.BEYOND, x.of(0, 0));
        for (int guard = 0; guard < 4; guard++) {
            due.is("1 guard " + guard, -1, x.guard(guard, -1));
        }
        for (int spot = 0; spot < 10; spot++) {
            due.is("1 as " + spot, Due.MISSING, x.as(spot, 0));
        }
        for (int s = 0; s < 4; s++) {
            due.is("1 load " + s, Due.MISSING, x.load(s));
        }
        due.is("1 wipe", 0, x.wipe());
        due.is("1 undo", Due.NONE, x.undo());
        due.is("1 tear", 0, x.tear());
        due.is("1 sight", 4, x.sight(4));
        due.is("1 seed", 1, x.seed(1));
    }

    private static void fill() {
        BathBorder x = new BathBorder();
        due.is("2 steam was", 0, x.fill(47, 0, 9));
        due.is("2 steam was then", 9, x.fill(47, 0, 0));
        due.is("2 steam is", 0, x.cell(47, 0));
        due.is("2 current was", 0, x.fill(0, 1, 4));
        due.is("2 current was then", 4, x.fill(0, 1, 3));
        due.is("2 current is", 3, x.cell(0, 1));
        due.is("2 steam beside it", 0, x.cell(0, 0));
        int[][] wrong = {{48, 0, 0}, {-1, 0, 0}, {0, 2, 0}, {0, -1, 0}, {0, 0, 10}, {0, 0, -1}, {0, 1, 5}, {0, 1, -1},
            {Integer.MAX_VALUE, 0, 0}, {Integer.MIN_VALUE, 1, 0}, {3, 1, 9}};
        for (int[] w : wrong) {
            due.is("2 wrong " + w[0] + " " + w[1] + " " + w[2], Due.BEYOND, x.fill(w[0], w[1], w[2]));
        }
        due.is("2 nothing changed", 0, x.cell(0, 0));
        due.is("2 nothing changed there", 3, x.cell(0, 1));
    }

    private static void cell() {
        BathBorder x = new BathBorder();
        x.guard(0, 20);
        x.guard(3, 22);
        due.is("3 seen by both", 9, x.cell(21, 2));
        due.is("3 far, seen by one", 1, x.cell(16, 2));
        due.is("3 too far for one", 8, x.cell(47, 2));
        x.fill(21, 0, 3);
        due.is("3 through steam", 9, x.cell(21, 2));
        x.fill(21, 0, 4);
        due.is("3 steam hides", 0, x.cell(21, 2));
        x.fill(20, 0, 4);
        due.is("3 where the guard is", 1, x.cell(20, 2));
        x.fill(20, 0, 5);
        due.is("3 hidden where the guard is", 0, x.cell(20, 2));
        x.bather(0, 20);
        x.bather(5, 20);
        x.bather(0, 19);
        due.is("3 bathers", 2, x.cell(20, 3));
        due.is("3 bather", 1, x.cell(19, 3));
        due.is("3 wrong cell", Due.BEYOND, x.cell(48, 0));
        due.is("3 wrong cell below", Due.BEYOND, x.cell(-1, 3));
        due.is("3 wrong what", Due.BEYOND, x.cell(0, 4));
        due.is("3 wrong what below", Due.BEYOND, x.cell(0, -1));
    }

    private static void guard() {
        BathBorder x = new BathBorder();
        due.is("4 was nowhere", -1, x.guard(3, 47));
        due.is("4 was", 47, x.guard(3, 0));
        due.is("4 was then", 0, x.guard(3, -1));
        due.is("4 nowhere sees nothing", 0, x.seen());
        int[][] wrong = {{4, 0}, {-1, 0}, {0, 48}, {0, -2}};
        for (int[] w : wrong) {
            due.is("4 wrong " + w[0] + " " + w[1], Due.BEYOND, x.guard(w[0], w[1]));
        }
        due.is("4 nothing changed", -1, x.guard(0, 1));
    }

    private static void sight() {
        BathBorder x = new BathBorder();
        due.is("5 was", 4, x.sight(0));
        due.is("5 was then", 0, x.sight(12));
        due.is("5 beyond", Due.BEYOND, x.sight(13));
        due.is("5 below", Due.BEYOND, x.sight(-1));
        due.is("5 is", 12, x.now(4));
        x.guard(0, 0);
        due.is("5 farthest", 1, x.cell(47, 2));
        due.is("5 all", (1L << 48) - 1, x.seen());
        x.sight(11);
        due.is("5 not so far", 0, x.cell(47, 2));
    }

    private static void bather() {
        BathBorder x = new BathBorder();
        due.is("6 kind", Due.BEYOND, x.bather(7, 0));
        due.is("6 kind below", Due.BEYOND, x.bather(-1, 0));
        due.is("6 cell", Due.BEYOND, x.bather(0, 48));
        due.is("6 cell below", Due.BEYOND, x.bather(0, -1));
        for (int b = 0; b < 8; b++) {
            due.is("6 number", b, x.bather(b % 7, 40 + b));
        }
        due.is("6 full", Due.FULL, x.bather(0, 0));
        due.is("6 beyond ahead of full", Due.BEYOND, x.bather(0, 48));
        due.is("6 how many", 8, x.count(1));
        int[] fresh = {0, 47, 0, 0, 7};
        for (int what = 0; what < fresh.length; what++) {
            due.is("6 new one's " + what, fresh[what], x.of(7, what));
        }
        due.is("6 kind of 6", 6, x.of(6, 0));
    }

    private static void of() {
        BathBorder x = new BathBorder();
        x.bather(1, 9);
        x.change(0, 2, 1);
        x.change(0, 3, 44);
        x.change(0, 4, 5);
        int[] is = {1, 9, 1, 44, 5, 10, 0};
        for (int what = 0; what < is.length; what++) {
            due.is("7 what " + what, is[what], x.of(0, what));
        }
        x.guard(1, 9);
        due.is("7 seen", 1, x.of(0, 6));
        x.bather(1, 47);
        due.is("7 another is not seen", 0, x.of(1, 6));
        due.is("7 the first still is", 1, x.of(0, 6));
        due.is("7 what beyond", Due.BEYOND, x.of(0, 7));
        due.is("7 what below", Due.BEYOND, x.of(0, -1));
        due.is("7 bather beyond", Due.BEYOND, x.of(2, 0));
        due.is("7 bather below", Due.BEYOND, x.of(-1, 0));
        x.change(0, 0, 0);
        x.change(0, 1, 15);
        x.go(1);
        due.is("7 out", 101, x.of(0, 1));
        due.is("7 out steps nowhere", 101, x.of(0, 5));
        due.is("7 out is not seen", 0, x.of(0, 6));
    }

    private static void step(String what, int kind, int wish, int at, int to, int current, int... guards) {
        BathBorder x = new BathBorder();
        x.sight(0);
        x.bather(kind, at);
        x.change(0, 2, wish);
        x.fill(at, 1, current);
        for (int guard = 0; guard < guards.length; guard++) {
            x.guard(guard, guards[guard]);
        }
        due.is("7 " + what, to, x.of(0, 5));
    }

    private static void steps() {
        step("bather west", 0, 0, 12, 11, 3);
        step("bather east", 0, 1, 12, 13, 0, 13);
        step("bather there", 0, 0, 16, 16, 2);
        step("bather there, east", 0, 1, 23, 23, 4);
        step("spy", 1, 0, 12, 11, 0, 12, 20);
        step("spy who would be seen", 1, 0, 12, 12, 0, 11);
        step("spy there", 1, 0, 8, 8, 0);
        step("general", 6, 1, 12, 13, 0, 20);
        step("general down", 6, 1, 12, 20, 0, 13);
        step("general held", 6, 1, 12, 12, 0, 13, 20);
        step("general in the last row", 6, 1, 44, 44, 0, 45);
        step("general there", 6, 0, 8, 16, 0);
        step("floater still", 2, 0, 12, 12, 0);
        step("floater up", 2, 0, 12, 4, 1);
        step("floater right", 2, 0, 12, 13, 2);
        step("floater down", 2, 0, 12, 20, 3);
        step("floater left", 2, 1, 12, 11, 4);
        step("floater to the first cell", 2, 1, 8, 0, 1);
        step("floater to the first cell, left", 2, 1, 1, 0, 4);
        step("floater to the last row", 2, 0, 36, 44, 3);
        step("general to the last row", 6, 1, 36, 44, 0, 37);
        step("floater at the upper edge", 2, 0, 4, 4, 1);
        step("floater at the east edge", 2, 0, 15, 15, 2);
        step("floater at the lower edge", 2, 0, 44, 44, 3);
        step("floater at the west edge", 2, 0, 16, 16, 4);
        for (int kind = 3; kind <= 4; kind++) {
            step("lover by current", kind, 0, 12, 20, 3);
            step("lover at an edge with current", kind, 0, 16, 16, 4);
            int[] to = {1, 2, 3, 3, 4, 4, 5, 6};
            for (int column = 0; column < 8; column++) {
                step("lover in column " + column, kind, column % 2, 32 + column, 32 + to[column], 0);
            }
        }
        step("child", 5, 0, 12, 10, 1);
        step("child east", 5, 1, 12, 14, 0, 13, 14);
        step("child one column away", 5, 0, 9, 8, 0);
        step("child there", 5, 1, 15, 15, 0);
    }

    private static void change() {
        BathBorder x = new BathBorder();
        x.bather(0, 0);
        int[] most = {6, 47, 1, 99, 7};
        for (int what = 0; what < 5; what++) {
            due.is("8 was " + what, 0, x.change(0, what, most[what]));
            due.is("8 beyond " + what, Due.BEYOND, x.change(0, what, most[what] + 1));
            due.is("8 below " + what, Due.BEYOND, x.change(0, what, -1));
            due.is("8 is " + what, most[what], x.of(0, what));
            due.is("8 was then " + what, most[what], x.change(0, what, 0));
        }
        due.is("8 what beyond", Due.BEYOND, x.change(0, 5, 0));
        due.is("8 what below", Due.BEYOND, x.change(0, -1, 0));
        due.is("8 bather beyond", Due.BEYOND, x.change(1, 0, 0));
        due.is("8 bather below", Due.BEYOND, x.change(-1, 0, 0));
        x.go(1);
        due.is("8 not out by word", Due.BEYOND, x.change(0, 1, 100));
        due.is("8 was out", 100, x.change(0, 1, 5));
        due.is("8 in again", 0, x.count(2));
    }
}
