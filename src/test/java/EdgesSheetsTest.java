/** Promises 36 to 42 at their edges: spots, sheets. */
public final class EdgesSheetsTest {
    private static final Due due = new Due();
    private static final Edge fresh = Edge.fresh(due);
    private static final Edge settled = Edge.settled(due);
    private static final Edge crowded = Edge.crowded(due);

    public static void main(String[] args) {
        hold();
        as();
        sheetRefused();
        sheetMade();
        writeRefused();
        written();
        copyRefused();
        copyOrder();
        copied();
        load();
        judge();
        judgeSteps();
        due.end();
    }

    private static void hold() {
        for (int spot : new int[] {-1, 10, Edge.LEAST, Edge.MOST}) {
            settled.refused("36 spot " + spot, Due.BEYOND, x -> x.hold(spot, 0));
            settled.refused("36 spot " + spot + " for nothing", Due.BEYOND, x -> x.hold(spot, -1));
        }
        for (int b : new int[] {-2, 6, Edge.LEAST, Edge.MOST}) {
            settled.refused("36 bather " + b, Due.BEYOND, x -> x.hold(0, b));
        }
        fresh.refused("36 nobody", Due.BEYOND, x -> x.hold(0, 0));
        fresh.does("36 nothing, though there is nobody", 1, x -> x.hold(0, -1));
        crowded.refused("36 the ninth", Due.BEYOND, x -> x.hold(0, 8));
        for (int spot : new int[] {0, 9}) {
            for (int b : new int[] {0, 7}) {
                crowded.does("36 spot " + spot + " for " + b, 1, x -> x.hold(spot, b));
                crowded.and(x -> x.hold(spot, b)).tells("36 spot " + spot + " holds " + b, b, x -> x.as(spot, 0));
            }
            crowded.does("36 spot " + spot + " for nothing", 1, x -> x.hold(spot, -1));
            crowded.and(x -> x.hold(spot, -1)).refused("36 spot " + spot + " holds nothing", Due.MISSING, x -> x.as(spot, 0));
        }
        crowded.and(x -> x.hold(4, 5)).and(x -> x.hold(5, 5)).tells("36 one in several spots", 5, x -> x.count(7));
        Edge all = crowded.and(x -> {
            for (int spot = 0; spot < 10; spot++) {
                x.hold(spot, 7);
            }
        });
        all.tells("36 all spots hold one", 10, x -> x.count(7));
    }

    private static void as() {
        for (int spot : new int[] {-1, 10, Edge.LEAST, Edge.MOST}) {
            settled.refused("37 spot " + spot, Due.BEYOND, x -> x.as(spot, 0));
        }
        for (int kind : new int[] {-1, 7, Edge.LEAST, Edge.MOST}) {
            settled.refused("37 kind " + kind, Due.BEYOND, x -> x.as(9, kind));
            settled.refused("37 kind " + kind + " ahead of missing", Due.BEYOND, x -> x.as(4, kind));
        }
        for (int kind = 0; kind < 7; kind++) {
            int k = kind;
            settled.refused("37 an empty spot as " + kind, Due.MISSING, x -> x.as(4, k));
        }
        // Whose row it is: the kinds that it is not of.
        String[] not = {"123456", "23456", "13456", "1456", "156", "12346", "2345"};
        for (int kind = 0; kind < 7; kind++) {
            for (int wanted = 0; wanted < 7; wanted++) {
                int k = kind;
                int w = wanted;
                Edge held = fresh.and(x -> x.bather(0, 0)).and(x -> x.bather(k, 0)).and(x -> x.hold(9, 1));
                if (not[kind].indexOf('0' + wanted) < 0) {
                    held.tells("37 kind " + kind + " as " + wanted, 1, x -> x.as(9, w));
                } else {
                    held.refused("37 kind " + kind + " as " + wanted, Due.KIND, x -> x.as(9, w));
                }
            }
        }
        settled.tells("37 who is out", 0, x -> x.as(0, 0));
    }

    private static void sheetRefused() {
        for (int s : new int[] {-1, 4, Edge.LEAST, Edge.MOST}) {
            settled.refused("38 sheet " + s, Due.BEYOND, x -> x.sheet(s, 8, 1));
            settled.refused("38 sheet " + s + " ahead of size", Due.BEYOND, x -> x.sheet(s, 8, -1));
        }
        for (int bits : new int[] {-1, 1, 4, 7, 9, 15, 17, 24, 31, 33, 64, -8, 264, Edge.LEAST, Edge.MOST}) {
            settled.refused("38 bits " + bits, Due.BEYOND, x -> x.sheet(0, bits, 1));
            settled.refused("38 bits " + bits + " ahead of size", Due.BEYOND, x -> x.sheet(0, bits, -1));
        }
        for (int bits : new int[] {0, 8, 16, 32}) {
            settled.refused("38 n -1 of bits " + bits, Due.SIZE, x -> x.sheet(0, bits, -1));
            settled.refused("38 the least n of bits " + bits, Due.SIZE, x -> x.sheet(0, bits, Edge.LEAST));
            settled.refused("38 n 41 of bits " + bits, Due.BEYOND, x -> x.sheet(0, bits, 41));
            settled.refused("38 the most n of bits " + bits, Due.BEYOND, x -> x.sheet(0, bits, Edge.MOST));
            settled.refused("38 n -1 of a missing one, bits " + bits, Due.SIZE, x -> x.sheet(3, bits, -1));
            settled.refused("38 n 41 of a missing one, bits " + bits, Due.BEYOND, x -> x.sheet(3, bits, 41));
        }
    }

    private static void sheetMade() {
        for (int s : new int[] {0, 3}) {
            for (int bits : new int[] {8, 16, 32}) {
                for (int n : new int[] {0, 1, 40}) {
                    Edge made = settled.and(x -> x.sheet(s, bits, n));
                    String what = "38 sheet " + s + " of " + n + " by " + bits;
                    settled.does(what, n, x -> x.sheet(s, bits, n));
                    made.does(what + ", all 0", n, x -> x.load(s));
                    made.refused(what + ", no more", Due.BEYOND, x -> x.write(s, n, 0));
                }
            }
            for (int n : new int[] {0, 1, 40}) {
                settled.does("38 sheet " + s + " missing, n " + n, 0, x -> x.sheet(s, 0, n));
                settled.and(x -> x.sheet(s, 0, n)).refused("38 sheet " + s + " is missing, n " + n, Due.MISSING, x -> x.load(s));
            }
        }
        // What a longer one held doesn't come back.
        Edge full = fresh.and(x -> x.sheet(1, 8, 40)).and(x -> {
            for (int i = 0; i < 40; i++) {
                x.write(1, i, 10);
            }
        });
        full.tells("38 nothing to load", 0, x -> x.load(1));
        full.and(x -> x.sheet(1, 8, 0)).and(x -> x.sheet(1, 8, 40)).tells("38 all 0 again", 40, x -> x.load(1));
        full.and(x -> x.sheet(1, 0, 0)).and(x -> x.sheet(1, 16, 40)).tells("38 all 0 behind missing", 40, x -> x.load(1));
        full.and(x -> x.sheet(1, 8, 40)).tells("38 made anew", 40, x -> x.load(1));
        full.and(x -> x.sheet(0, 8, 40)).tells("38 another one is as it was", 0, x -> x.load(1));
    }

    private static void writeRefused() {
        for (int s : new int[] {-1, 4, Edge.LEAST, Edge.MOST}) {
            settled.refused("39 sheet " + s, Due.BEYOND, x -> x.write(s, 0, 0));
        }
        for (int i : new int[] {-1, 0, 40, Edge.LEAST, Edge.MOST}) {
            settled.refused("39 missing, number " + i, Due.MISSING, x -> x.write(3, i, 0));
            settled.refused("39 empty, number " + i, Due.BEYOND, x -> x.write(2, i, 0));
        }
        for (int i : new int[] {-1, 3, 40, Edge.LEAST, Edge.MOST}) {
            settled.refused("39 three, number " + i, Due.BEYOND, x -> x.write(0, i, 0));
        }
        settled.does("39 the first", 1, x -> x.write(0, 0, 9));
        settled.does("39 the last", 1, x -> x.write(0, 2, 9));
        settled.and(x -> x.sheet(3, 32, 40)).does("39 the last of forty", 1, x -> x.write(3, 39, Edge.LEAST));
        settled.and(x -> x.sheet(3, 32, 40)).refused("39 one behind forty", Due.BEYOND, x -> x.write(3, 40, 0));
    }

    /** Lowest bits alone: numbers that become 7, and such as don't. */
    private static void written() {
        int[][] sevens = {{8, 7, 1}, {8, 263, 1}, {8, -249, 1}, {8, 0x7fffff07, 1}, {8, 0x107, 1}, {16, 7, 1}, {16, 263, 0},
            {16, 65543, 1}, {16, -65529, 1}, {16, 0x7fff0007, 1}, {32, 7, 1}, {32, 263, 0}, {32, 65543, 0}, {32, -7, 0}};
        for (int[] s : sevens) {
            Edge one = fresh.and(x -> Due.sheet(x, 0, s[0], s[1]));
            one.does("39 of " + s[0] + " bits " + s[1], s[2], x -> x.load(0));
            one.and(x -> x.load(0)).tells("39 of " + s[0] + " bits " + s[1] + " is 7", 7 * s[2], x -> x.cell(0, 0));
        }
        // With their sign: the topmost bit makes them less than 0, and no cell.
        int[][] cells = {{8, 47, 0}, {8, 48, 1}, {8, 128, 1}, {8, 128 + 47, 1}, {8, 256 + 47, 0}, {8, -128, 1}, {16, 32768 + 47, 1},
            {16, 65536 + 47, 0}, {16, 256 + 47, 1}, {32, Edge.LEAST + 47, 1}, {32, 65536 + 47, 1}, {32, 47, 0}};
        for (int[] c : cells) {
            fresh.and(x -> Due.sheet(x, 0, c[0], c[1])).tells("39 of " + c[0] + " bits " + c[1] + " as a cell", c[2],
                x -> x.judge(0));
        }
    }

    private static final int[][] THREE_FIVE = {{0, 8, 1, 2, 3}, {1, 8, 4, 5, 6, 7, 8}, {2, 16, 1, 2, 3}};

    private static Edge three() {
        return settled.and(x -> {
            for (int[] row : THREE_FIVE) {
                Due.sheet(x, row[0], row[1], java.util.Arrays.copyOfRange(row, 2, row.length));
            }
        });
    }

    private static void copyRefused() {
        for (int s : new int[] {-1, 4, Edge.LEAST, Edge.MOST}) {
            three().refused("40 from sheet " + s, Due.BEYOND, x -> x.copy(s, 0, 0, 0, 1));
            three().refused("40 to sheet " + s, Due.BEYOND, x -> x.copy(0, 0, s, 0, 1));
        }
        // from, to, n between a sheet of three and one of five.
        int[][] beyond = {{-1, 0, 1}, {0, -1, 1}, {0, 0, -1}, {-1, -1, -1}, {1, 1, -1}, {0, 0, 4}, {1, 0, 3}, {2, 0, 2}, {3, 0, 1},
            {4, 0, 0}, {0, 3, 3}, {0, 4, 2}, {0, 5, 1}, {0, 6, 0}, {-1, 0, 0}, {0, -1, 0}, {Edge.MOST, 0, 1}, {0, Edge.MOST, 1},
            {0, 0, Edge.MOST}, {1, 1, Edge.MOST}, {Edge.MOST, Edge.MOST, Edge.MOST}, {Edge.LEAST, 0, 1}, {0, Edge.LEAST, 1},
            {0, 0, Edge.LEAST}, {Edge.LEAST, Edge.LEAST, Edge.LEAST}, {3, 3, Edge.LEAST}, {Edge.LEAST, 0, Edge.LEAST}};
        for (int[] b : beyond) {
            String what = b[0] + " to " + b[1] + ", " + b[2];
            three().refused("40 " + what, Due.BEYOND, x -> x.copy(0, b[0], 1, b[1], b[2]));
            three().refused("40 back " + what, Due.BEYOND, x -> x.copy(1, b[1], 0, b[0], b[2]));
        }
        three().refused("40 over itself, too many", Due.BEYOND, x -> x.copy(0, 0, 0, 1, 3));
        three().refused("40 over itself, back, too many", Due.BEYOND, x -> x.copy(0, 1, 0, 0, 3));
    }

    /** Of several findings the one that is asked first. */
    private static void copyOrder() {
        three().refused("40 no such sheet ahead of missing", Due.BEYOND, x -> x.copy(3, 0, 4, 0, 1));
        three().refused("40 no such sheet ahead of missing, back", Due.BEYOND, x -> x.copy(4, 0, 3, 0, 1));
        three().refused("40 missing from", Due.MISSING, x -> x.copy(3, 0, 0, 0, 1));
        three().refused("40 missing to", Due.MISSING, x -> x.copy(0, 0, 3, 0, 1));
        three().refused("40 missing both", Due.MISSING, x -> x.copy(3, 0, 3, 0, 0));
        three().refused("40 missing ahead of beyond", Due.MISSING, x -> x.copy(0, -1, 3, -1, -1));
        three().refused("40 missing for none", Due.MISSING, x -> x.copy(0, 0, 3, 0, 0));
        three().refused("40 other bits", Due.KIND, x -> x.copy(0, 0, 2, 0, 1));
        three().refused("40 other bits, back", Due.KIND, x -> x.copy(2, 0, 0, 0, 1));
        three().refused("40 other bits for none", Due.KIND, x -> x.copy(0, 0, 2, 0, 0));
        three().refused("40 other bits ahead of beyond", Due.KIND, x -> x.copy(0, -1, 2, -1, -1));
        three().refused("40 other bits ahead of too many", Due.KIND, x -> x.copy(2, 3, 1, 5, 40));
    }

    private static void copied() {
        three().tells("40 none", 0, x -> x.copy(0, 0, 1, 0, 0));
        three().tells("40 none at both ends", 0, x -> x.copy(0, 3, 1, 5, 0));
        three().and(x -> x.sheet(3, 8, 0)).tells("40 none of an empty one", 0, x -> x.copy(3, 0, 0, 3, 0));
        three().and(x -> x.sheet(3, 8, 0)).refused("40 one of an empty one", Due.BEYOND, x -> x.copy(3, 0, 0, 0, 1));
        three().tells("40 all over itself", 3, x -> x.copy(0, 0, 0, 0, 3));
        three().does("40 all that it has", 3, x -> x.copy(0, 0, 1, 2, 3));
        three().does("40 to all that it has", 3, x -> x.copy(1, 2, 0, 0, 3));
        loaded("40 to the end", three().and(x -> x.copy(0, 0, 1, 2, 3)), 1, 4, 5, 1, 2, 3);
        loaded("40 from the end", three().and(x -> x.copy(1, 2, 0, 0, 3)), 0, 6, 7, 8);
        loaded("40 forward over itself", three().and(x -> x.copy(1, 0, 1, 1, 4)), 1, 4, 4, 5, 6, 7);
        loaded("40 back over itself", three().and(x -> x.copy(1, 1, 1, 0, 4)), 1, 5, 6, 7, 8, 8);
        loaded("40 from is as it was", three().and(x -> x.copy(0, 0, 1, 0, 3)), 0, 1, 2, 3);
        Edge forty = settled.and(x -> x.sheet(2, 32, 40)).and(x -> x.sheet(3, 32, 40));
        forty.does("40 forty", 40, x -> x.copy(2, 0, 3, 0, 40));
        forty.refused("40 one and forty", Due.BEYOND, x -> x.copy(2, 0, 3, 0, 41));
        Edge minus = one(16, -1).and(x -> x.sheet(1, 16, 1)).and(x -> x.copy(0, 0, 1, 0, 1)).and(x -> x.bather(4, 11));
        minus.tells("40 with its sign", 1, x -> x.fits(1));
    }

    private static Edge one(int bits, int number) {
        return fresh.and(x -> Due.sheet(x, 0, bits, number));
    }

    private static void loaded(String what, Edge edge, int s, int... numbers) {
        edge.does(what, numbers.length, x -> x.load(s));
        for (int i = 0; i < numbers.length; i++) {
            int cell = i;
            edge.and(x -> x.load(s)).tells(what + ", number " + i, numbers[i], x -> x.cell(cell, 0));
        }
    }

    private static void load() {
        for (int s : new int[] {-1, 4, Edge.LEAST, Edge.MOST}) {
            settled.refused("41 sheet " + s, Due.BEYOND, x -> x.load(s));
        }
        settled.refused("41 missing", Due.MISSING, x -> x.load(3));
        settled.tells("41 an empty one", 0, x -> x.load(2));
        int[][] firsts = {{-1, 0}, {0, 1}, {9, 1}, {10, 0}, {Edge.LEAST, 0}, {Edge.MOST, 0}};
        for (int[] f : firsts) {
            one(32, f[0]).does("41 the first is " + f[0], f[1], x -> x.load(0));
        }
        one(8, 10).and(x -> x.fill(0, 0, 5)).tells("41 the first isn't: nothing comes", 0, x -> x.load(0));
        Edge broken = fresh.and(x -> x.fill(2, 0, 5)).and(x -> Due.sheet(x, 0, 8, 9, 0, 10, 3)).and(x -> x.load(0));
        int[] steam = {9, 0, 5, 0};
        for (int i = 0; i < steam.length; i++) {
            int cell = i;
            broken.tells("41 to the first that isn't, cell " + i, steam[i], x -> x.cell(cell, 0));
        }
        Edge full = fresh.and(x -> x.fill(40, 0, 5)).and(x -> x.sheet(0, 8, 40)).and(x -> x.write(0, 39, 9));
        full.does("41 forty", 40, x -> x.load(0));
        full.and(x -> x.load(0)).tells("41 the last of forty", 9, x -> x.cell(39, 0));
        full.and(x -> x.load(0)).tells("41 one behind forty", 5, x -> x.cell(40, 0));
        full.and(x -> x.write(0, 39, 10)).does("41 all but the last", 39, x -> x.load(0));
    }

    private static void judge() {
        for (int s : new int[] {-1, 4, Edge.LEAST, Edge.MOST}) {
            settled.refused("42 sheet " + s, Due.BEYOND, x -> x.judge(s));
        }
        settled.refused("42 missing", Due.MISSING, x -> x.judge(3));
        settled.tells("42 an empty one", 0, x -> x.judge(2));
        int[][] firsts = {{-1, 1}, {0, 0}, {47, 0}, {48, 1}, {Edge.LEAST, 1}, {Edge.MOST, 1}};
        for (int[] f : firsts) {
            one(32, f[0]).tells("42 the first is " + f[0], f[1], x -> x.judge(0));
        }
        one(8, 0).and(x -> x.guard(0, 0)).tells("42 the first is seen", 1, x -> x.judge(0));
        one(8, 0).and(x -> x.guard(0, 0)).and(x -> x.fill(0, 0, 5)).tells("42 the first is hidden", 0, x -> x.judge(0));
        int[] snake = new int[40];
        for (int i = 0; i < 40; i++) {
            snake[i] = i / 8 % 2 == 0 ? i : i / 8 * 8 + 7 - i % 8;
        }
        Edge full = fresh.and(x -> Due.sheet(x, 0, 16, snake));
        full.tells("42 forty", 0, x -> x.judge(0));
        full.and(x -> x.write(0, 39, 0)).tells("42 the last of forty isn't so", 40, x -> x.judge(0));
        full.and(x -> x.sight(0)).and(x -> x.guard(1, 39)).tells("42 the last of forty is seen", 40, x -> x.judge(0));
    }

    private static void judgeSteps() {
        int[][] steps = {{9, 1, 0}, {9, 10, 0}, {9, 17, 0}, {9, 8, 0}, {9, 9, 2}, {9, 0, 2}, {9, 2, 2}, {9, 16, 2}, {9, 18, 2},
            {7, 8, 2}, {8, 7, 2}, {0, -8, 2}, {0, -1, 2}, {47, 48, 2}, {47, 55, 2}, {40, 39, 2}, {46, 47, 0}, {1, 0, 0}, {9, 11, 2},
            {9, 25, 2}};
        for (int[] s : steps) {
            fresh.and(x -> Due.sheet(x, 0, 8, s[0], s[1])).tells("42 from " + s[0] + " to " + s[1], s[2], x -> x.judge(0));
        }
        fresh.and(x -> Due.sheet(x, 0, 8, 9, 8, 9, 8)).tells("42 to and fro", 0, x -> x.judge(0));
        fresh.and(x -> Due.sheet(x, 0, 8, 9, 11, 13)).tells("42 the first of several", 2, x -> x.judge(0));
        fresh.and(x -> Due.sheet(x, 0, 8, 9, 10, 12)).tells("42 the third", 3, x -> x.judge(0));
    }
}
