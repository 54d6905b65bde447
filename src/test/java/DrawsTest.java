/** Promises 31 and 32: draws. */
public final class DrawsTest {
    private static final Due due = new Due();

    public static void main(String[] args) {
        steams();
        noMoreThanNine();
        seenTogether();
        seed();
        wrong();
        due.end();
    }

    private static void steams() {
        BathBorder x = new BathBorder();
        int[] steam = new int[48];
        int z = 1;
        for (int i = 0; i < 20; i++) {
            z = z * 1103515245 + 12345;
            steam[(z >>> 8) % 48]++;
        }
        due.is("31 nobody", 0, x.steams(20));
        for (int cell = 0; cell < 48; cell++) {
            due.is("31 steam of " + cell, steam[cell], x.cell(cell, 0));
        }
        due.is("31 z", z, x.count(6));
        due.is("31 minutes", 20, x.now(0));
        due.is("31 steam together", 20, x.count(4));
    }

    private static void noMoreThanNine() {
        BathBorder x = new BathBorder();
        for (int cell = 0; cell < 48; cell++) {
            x.fill(cell, 0, 9);
        }
        x.steams(20);
        due.is("31 nine at most", 9 * 48, x.count(4));
    }

    private static void seenTogether() {
        BathBorder x = new BathBorder();
        x.bather(4, 11);
        x.bather(4, 12);
        x.bather(0, 11);
        x.sight(12);
        x.guard(1, 11);
        due.is("31 two stay, one is out in the fourth minute", 3 + 3 + 3 + 2, x.steams(4));
        BathBorder y = new BathBorder();
        y.bather(4, 11);
        y.bather(0, 10);
        y.sight(12);
        y.guard(1, 11);
        due.is("31 seen in each minute", 5 + 2, y.steams(5));
        due.is("31 seen ever", 7, y.now(3));
        due.is("31 out", 1, y.count(2));
    }

    private static void seed() {
        BathBorder x = new BathBorder();
        due.is("32 was", 1, x.seed(-1000001));
        due.is("32 was then", -1000001, x.seed(Integer.MIN_VALUE));
        due.is("32 is", Integer.MIN_VALUE, x.count(6));
        due.is("32 no finding", 0, x.status(-1));
        x.seed(-5);
        int z = -5 * 1103515245 + 12345;
        x.steams(1);
        due.is("31 a draw of z below 0", 1, x.cell((z >>> 8) % 48, 0));
    }

    private static void wrong() {
        BathBorder x = new BathBorder();
        int[] wrong = {0, -1, 21, Integer.MAX_VALUE, Integer.MIN_VALUE};
        for (int n : wrong) {
            due.is("31 wrong " + n, Due.BEYOND, x.steams(n));
        }
        due.is("31 nothing went by", 0, x.now(0));
        due.is("31 no draw", 1, x.count(6));
    }
}
