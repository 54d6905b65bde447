/** Promises 36 to 42: spots, sheets. */
public final class SheetsTest {
    private static final Due due = new Due();

    public static void main(String[] args) {
        hold();
        as();
        sheet();
        write();
        copy();
        copyFindings();
        load();
        judge();
        due.end();
    }

    private static void hold() {
        BathBorder x = new BathBorder();
        due.is("36 no such bather", Due.BEYOND, x.hold(0, 0));
        x.bather(0, 0);
        due.is("36 held", 1, x.hold(9, 0));
        due.is("36 spots", 1, x.count(7));
        due.is("36 nothing", 1, x.hold(9, -1));
        due.is("36 spots then", 0, x.count(7));
        due.is("36 nothing again", 1, x.hold(0, -1));
        due.is("36 the first spot", 1, x.hold(0, 0));
        due.is("36 is held", 1, x.count(7));
        int[][] wrong = {{10, 0}, {-1, 0}, {0, 1}, {0, -2}, {10, -1}};
        for (int[] w : wrong) {
            due.is("36 wrong " + w[0] + " " + w[1], Due.BEYOND, x.hold(w[0], w[1]));
        }
    }

    private static void as() {
        // Whose row it is: the kinds that one may be taken as.
        String[] as = {"0", "01", "02", "023", "0234", "05", "016"};
        BathBorder x = new BathBorder();
        for (int kind = 0; kind < 7; kind++) {
            x.bather(kind, 0);
            x.hold(9 - kind, kind);
        }
        for (int kind = 0; kind < 7; kind++) {
            for (int wanted = 0; wanted < 7; wanted++) {
                boolean is = as[kind].indexOf('0' + wanted) >= 0;
                due.is("37 " + kind + " as " + wanted, is ? kind : Due.KIND, x.as(9 - kind, wanted));
            }
        }
        due.is("37 nothing", Due.MISSING, x.as(0, 0));
        due.is("37 spot beyond", Due.BEYOND, x.as(10, 0));
        due.is("37 spot below", Due.BEYOND, x.as(-1, 0));
        due.is("37 kind beyond", Due.BEYOND, x.as(0, 7));
        due.is("37 kind below", Due.BEYOND, x.as(9, -1));
        x.change(6, 0, 4);
        due.is("37 another kind now", 6, x.as(3, 3));
    }

    private static void sheet() {
        BathBorder x = new BathBorder();
        due.is("38 made", 40, x.sheet(3, 32, 40));
        due.is("38 empty", 0, x.sheet(0, 8, 0));
        due.is("38 empty is not missing", 0, x.load(0));
        x.write(3, 0, 7);
        due.is("38 made anew", 2, x.sheet(3, 16, 2));
        due.is("38 all 0", 2, x.load(3));
        due.is("38 steam 0", 0, x.cell(0, 0));
        due.is("38 no third", Due.BEYOND, x.write(3, 2, 0));
        due.is("38 sheet beyond", Due.BEYOND, x.sheet(4, 8, 1));
        due.is("38 sheet below", Due.BEYOND, x.sheet(-1, 8, 1));
        int[] bits = {1, 7, 9, 24, 33, 64, -8};
        for (int b : bits) {
            due.is("38 bits " + b, Due.BEYOND, x.sheet(3, b, 1));
            due.is("38 bits ahead of size " + b, Due.BEYOND, x.sheet(3, b, -1));
        }
        int[] fine = {0, 8, 16, 32};
        for (int b : fine) {
            due.is("38 size " + b, Due.SIZE, x.sheet(3, b, -1));
            due.is("38 n beyond " + b, Due.BEYOND, x.sheet(3, b, 41));
        }
        due.is("38 sheet ahead of size", Due.BEYOND, x.sheet(4, 8, -1));
        due.is("38 as it was", 1, x.write(3, 1, 1));
        due.is("38 away", 0, x.sheet(3, 0, 5));
        due.is("38 missing", Due.MISSING, x.write(3, 0, 0));
    }

    private static void write() {
        BathBorder x = new BathBorder();
        x.sheet(0, 8, 3);
        due.is("39 written", 1, x.write(0, 0, 256 + 5));
        due.is("39 written, too", 1, x.write(0, 1, -256 + 3));
        due.is("39 written last", 1, x.write(0, 2, 128));
        due.is("39 its lowest bits", 2, x.load(0));
        due.is("39 first", 5, x.cell(0, 0));
        due.is("39 second", 3, x.cell(1, 0));
        Due.sheet(x, 1, 16, 0x10007, 0x8000);
        due.is("39 16 bits", 1, x.load(1));
        due.is("39 of 16 bits", 7, x.cell(0, 0));
        Due.sheet(x, 2, 32, 0x10007);
        due.is("39 32 bits", 0, x.load(2));
        due.is("39 sheet beyond", Due.BEYOND, x.write(4, 0, 0));
        due.is("39 sheet below", Due.BEYOND, x.write(-1, 0, 0));
        due.is("39 missing", Due.MISSING, x.write(3, 99, 0));
        due.is("39 number beyond", Due.BEYOND, x.write(0, 3, 0));
        due.is("39 number below", Due.BEYOND, x.write(0, -1, 0));
    }

    private static void steams(String what, BathBorder x, int s, int... numbers) {
        due.is(what, numbers.length, x.load(s));
        for (int i = 0; i < numbers.length; i++) {
            due.is(what + " " + i, numbers[i], x.cell(i, 0));
        }
    }

    private static void copy() {
        BathBorder x = new BathBorder();
        Due.sheet(x, 0, 8, 1, 2, 3, 4, 5);
        Due.sheet(x, 1, 8, 9, 9, 9);
        due.is("40 two", 2, x.copy(0, 3, 1, 0, 2));
        steams("40 copied", x, 1, 4, 5, 9);
        due.is("40 forward over itself", 4, x.copy(0, 0, 0, 1, 4));
        steams("40 as they were", x, 0, 1, 1, 2, 3, 4);
        due.is("40 back over itself", 4, x.copy(0, 1, 0, 0, 4));
        steams("40 as they were then", x, 0, 1, 2, 3, 4, 4);
        due.is("40 none at the end", 0, x.copy(0, 5, 1, 3, 0));
        due.is("40 all", 3, x.copy(1, 0, 0, 2, 3));
        steams("40 all copied", x, 0, 1, 2, 4, 5, 9);
    }

    private static void copyFindings() {
        BathBorder x = new BathBorder();
        Due.sheet(x, 0, 8, 1, 2, 3, 4, 5);
        Due.sheet(x, 1, 8, 9, 9, 9);
        Due.sheet(x, 2, 16, 9, 9, 9);
        int[][] beyond = {{4, 0, 0, 0, 0}, {0, 0, 4, 0, 0}, {-1, 0, 0, 0, 0}, {0, 0, -1, 0, 0}, {3, 0, 4, 0, 0},
            {0, 4, 1, 0, 2}, {0, 0, 1, 2, 2}, {0, -1, 1, 0, 1}, {0, 0, 1, -1, 1}, {0, 1, 1, 1, -1}, {0, 6, 1, 0, 0},
            {0, 0, 1, 4, 0}, {0, Integer.MAX_VALUE, 1, 0, 1}, {0, 0, 1, Integer.MAX_VALUE, 1},
            {0, 1, 1, 1, Integer.MAX_VALUE}, {0, Integer.MIN_VALUE, 1, 0, Integer.MIN_VALUE}};
        for (int[] b : beyond) {
            due.is("40 beyond " + java.util.Arrays.toString(b), Due.BEYOND, x.copy(b[0], b[1], b[2], b[3], b[4]));
        }
        due.is("40 from a missing one", Due.MISSING, x.copy(3, 0, 0, 0, 0));
        due.is("40 to a missing one", Due.MISSING, x.copy(2, 0, 3, 0, 99));
        due.is("40 other bits", Due.KIND, x.copy(0, 0, 2, 0, 99));
        due.is("40 other bits, back", Due.KIND, x.copy(2, -1, 0, 0, 1));
        steams("40 nothing changed", x, 1, 9, 9, 9);
    }

    private static void load() {
        BathBorder x = new BathBorder();
        x.fill(2, 0, 6);
        Due.sheet(x, 0, 8, 9, 0, 10, 3);
        due.is("41 to the first that isn't", 2, x.load(0));
        int[] steam = {9, 0, 6, 0};
        for (int cell = 0; cell < 4; cell++) {
            due.is("41 cell " + cell, steam[cell], x.cell(cell, 0));
        }
        Due.sheet(x, 0, 8, -1, 3);
        due.is("41 none", 0, x.load(0));
        x.sheet(1, 16, 40);
        x.write(1, 39, 4);
        due.is("41 forty", 40, x.load(1));
        due.is("41 the last", 4, x.cell(39, 0));
        due.is("41 sheet beyond", Due.BEYOND, x.load(4));
        due.is("41 sheet below", Due.BEYOND, x.load(-1));
        due.is("41 missing", Due.MISSING, x.load(2));
    }

    private static void judged(String what, int want, BathBorder x, int... numbers) {
        Due.sheet(x, 0, 8, numbers);
        due.is("42 " + what, want, x.judge(0));
    }

    private static void judge() {
        BathBorder x = new BathBorder();
        judged("none", 0, x);
        judged("one", 0, x, 47);
        judged("no cell", 1, x, 48);
        judged("no cell below", 1, x, -1);
        judged("round", 0, x, 9, 1, 0, 8, 9, 10, 18);
        judged("the same again", 2, x, 9, 9);
        judged("over a corner", 2, x, 9, 18);
        judged("round the edge", 3, x, 6, 7, 8);
        judged("round the edge, back", 2, x, 16, 15);
        judged("no cell at the end", 2, x, 47, 48);
        judged("no cell up", 2, x, 0, -8);
        x.sight(0);
        x.guard(0, 3);
        judged("seen", 3, x, 1, 2, 3, 4);
        judged("seen first", 1, x, 3, 4);
        judged("the first that isn't so", 2, x, 1, 9 + 8, 3);
        due.is("42 sheet beyond", Due.BEYOND, x.judge(4));
        due.is("42 sheet below", Due.BEYOND, x.judge(-1));
        due.is("42 missing", Due.MISSING, x.judge(2));
    }
}
