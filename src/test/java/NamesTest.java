/** Promises 26 to 30: names, keys, taxes, boilers. */
public final class NamesTest {
    private static final Due due = new Due();

    public static void main(String[] args) {
        fits();
        swaps();
        swap();
        tax();
        boilers();
        due.end();
    }

    private static void fits() {
        BathBorder x = new BathBorder();
        x.bather(0, 9);
        x.bather(0, 13);
        x.bather(4, 13);
        x.change(2, 3, 98);
        Due.sheet(x, 0, 8);
        due.is("26 an empty sheet", 7, x.fits(0));
        Due.sheet(x, 0, 8, 0, 1, 2);
        due.is("26 who is in for two minutes", 2, x.fits(0));
        Due.sheet(x, 0, 16, 0, 1, 1);
        due.is("26 who gets out", 1, x.fits(0));
        Due.sheet(x, 0, 32, 98, 99, 99, 99);
        due.is("26 no more than 99", 4, x.fits(0));
        Due.sheet(x, 3, 8, 255, 1);
        due.is("26 any at first", 3, x.fits(3));
        Due.sheet(x, 3, 8, -1, -1);
        due.is("26 any", 7, x.fits(3));
        Due.sheet(x, 3, 16, 255, 1);
        due.is("26 255 of 16 bits is no -1", 0, x.fits(3));
        due.is("26 nothing changed", 0, x.now(0));
        due.is("26 beyond", Due.BEYOND, x.fits(4));
        due.is("26 below", Due.BEYOND, x.fits(-1));
        due.is("26 missing", Due.MISSING, x.fits(1));
        forty(x);
    }

    private static void forty(BathBorder x) {
        int[] numbers = new int[40];
        for (int i = 0; i < 40; i++) {
            numbers[i] = i;
        }
        x.change(2, 3, 0);
        Due.sheet(x, 2, 8, numbers);
        due.is("26 forty minutes", 4, x.fits(2));
        x.write(2, 39, 38);
        due.is("26 the last number", 0, x.fits(2));
    }

    private static void swaps() {
        BathBorder x = new BathBorder();
        due.is("27 nobody", 0, x.swaps());
        for (int b = 0; b < 8; b++) {
            x.bather(0, b);
        }
        due.is("27 in order", 0, x.swaps());
        int[] oneRing = {1, 2, 3, 4, 5, 6, 7, 0};
        for (int b = 0; b < 8; b++) {
            x.change(b, 4, oneRing[b]);
        }
        due.is("27 one ring", 7, x.swaps());
        int[] rings = {1, 0, 3, 2, 5, 6, 4, 7};
        for (int b = 0; b < 8; b++) {
            x.change(b, 4, rings[b]);
        }
        due.is("27 rings of 2, 2, 3, 1", 4, x.swaps());
        x.change(0, 4, 0);
        due.is("27 one twice", Due.STATE, x.swaps());
        BathBorder y = new BathBorder();
        y.bather(0, 0);
        y.bather(0, 0);
        y.change(1, 4, 2);
        due.is("27 no bather's number", Due.STATE, y.swaps());
    }

    private static void swap() {
        BathBorder x = new BathBorder();
        for (int b = 0; b < 3; b++) {
            x.bather(0, b);
        }
        due.is("28 swapped", 1, x.swap(0, 2));
        due.is("28 first", 2, x.of(0, 4));
        due.is("28 second", 0, x.of(2, 4));
        due.is("27 one swap", 1, x.swaps());
        x.change(1, 4, 2);
        due.is("28 alike", 0, x.swap(0, 1));
        due.is("28 still", 2, x.of(1, 4));
        int[][] wrong = {{3, 0}, {0, 3}, {-1, 0}, {0, -1}, {1, 1}};
        for (int[] w : wrong) {
            due.is("28 wrong " + w[0] + " " + w[1], Due.BEYOND, x.swap(w[0], w[1]));
        }
    }

    private static void tax() {
        BathBorder x = new BathBorder();
        x.bather(0, 12);
        x.bather(0, 12);
        x.change(1, 2, 1);
        due.is("29 none", 0, x.tax(0, 0));
        due.is("29 one", 3, x.tax(0, 1));
        due.is("29 west", 6, x.tax(0, 100));
        due.is("29 east", 5 + 6 + 7 + 7 * 97, x.tax(1, 100));
        due.is("29 n beyond", Due.BEYOND, x.tax(0, 101));
        due.is("29 n below", Due.BEYOND, x.tax(0, -1));
        due.is("29 bather beyond", Due.BEYOND, x.tax(2, 0));
        due.is("29 bather below", Due.BEYOND, x.tax(-1, 0));
        due.is("29 nothing changed", 12, x.of(0, 1));
        x.go(10);
        due.is("29 out in the west", 0, x.tax(0, 10));
        due.is("29 out in the east", 70, x.tax(1, 10));
    }

    private static void boilers() {
        BathBorder x = new BathBorder();
        for (int n = 0; n <= 12; n++) {
            for (int k = 1; k <= 13; k++) {
                due.is("30 " + n + " " + k, rowsOneByOne(n, k), x.boilers(n, k));
            }
        }
        due.is("30 all rows", 1L << 40, x.boilers(40, 40));
        due.is("30 all but two", (1L << 40) - 2, x.boilers(40, 39));
        due.is("30 turn by turn", 2, x.boilers(40, 1));
        due.is("30 by twos", 2L * 165580141, x.boilers(40, 2));
        int[][] wrong = {{41, 1}, {-1, 1}, {1, 0}, {1, 41}, {1, -1}};
        for (int[] w : wrong) {
            due.is("30 wrong " + w[0] + " " + w[1], Due.BEYOND, x.boilers(w[0], w[1]));
        }
        due.is("47 counted", wrong.length, x.status(0));
    }

    private static long rowsOneByOne(int n, int k) {
        long rows = 0;
        for (int row = 0; row < 1 << n; row++) {
            int longest = n == 0 ? 0 : 1;
            int inARow = 1;
            for (int i = 1; i < n; i++) {
                inARow = (row >> i & 1) == (row >> (i - 1) & 1) ? inARow + 1 : 1;
                longest = Math.max(longest, inARow);
            }
            if (longest <= k) {
                rows++;
            }
        }
        return rows;
    }
}
