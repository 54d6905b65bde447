/** Promises 12 to 17: what will be. */
public final class AheadTest {
    private static final Due due = new Due();

    public static void main(String[] args) {
        ahead();
        out();
        caught();
        meet();
        kindFor();
        sightFor();
        due.end();
    }

    private static void ahead() {
        BathBorder x = new BathBorder();
        x.bather(0, 11);
        x.bather(5, 12);
        x.change(1, 2, 1);
        int[] first = {11, 10, 9, 8, 100, 100};
        int[] second = {12, 14, 15, 101, 101, 101};
        for (int n = 0; n < first.length; n++) {
            due.is("12 first " + n, first[n], x.ahead(0, n));
            due.is("12 second " + n, second[n], x.ahead(1, n));
        }
        due.is("12 in 100", 101, x.ahead(1, 100));
        due.is("12 n beyond", Due.BEYOND, x.ahead(0, 101));
        due.is("12 n below", Due.BEYOND, x.ahead(0, -1));
        due.is("12 bather beyond", Due.BEYOND, x.ahead(2, 0));
        due.is("12 bather below", Due.BEYOND, x.ahead(-1, 0));
        due.is("12 nothing changed", 11, x.of(0, 1));
        due.is("12 no minute went by", 0, x.now(0));
        due.is("12 no wrinkles", 0, x.of(0, 3));
        x.go(4);
        due.is("12 out already", 100, x.ahead(0, 0));
        floats();
    }

    private static void floats() {
        BathBorder x = new BathBorder();
        x.bather(2, 10);
        x.fill(10, 1, 2);
        x.fill(11, 1, 3);
        x.fill(19, 1, 4);
        x.fill(18, 1, 1);
        int[] round = {10, 11, 19, 18};
        for (int n = 0; n <= 100; n++) {
            due.is("12 round " + n, round[n % 4], x.ahead(0, n));
        }
        due.is("13 never out", Due.NONE, x.out(0));
    }

    private static void out() {
        BathBorder x = new BathBorder();
        x.bather(0, 7);
        x.bather(5, 15);
        x.bather(4, 16);
        x.bather(1, 24);
        due.is("13 across", 8, x.out(0));
        due.is("13 child", 5, x.out(1));
        due.is("13 stayer", Due.NONE, x.out(2));
        due.is("13 there", 1, x.out(3));
        due.is("13 bather beyond", Due.BEYOND, x.out(4));
        due.is("13 bather below", Due.BEYOND, x.out(-1));
        x.go(1);
        due.is("13 out already", 0, x.out(3));
        due.is("13 nothing changed", 6, x.of(0, 1));
    }

    private static void caught() {
        BathBorder x = new BathBorder();
        x.bather(0, 7);
        x.bather(1, 7);
        x.bather(0, 47);
        due.is("14 no guard", Due.NONE, x.caught(0));
        x.guard(0, 0);
        due.is("14 on the way", 3, x.caught(0));
        due.is("14 spy waits", Due.NONE, x.caught(1));
        x.sight(6);
        due.is("14 another row", 6, x.caught(2));
        x.guard(0, 7);
        due.is("14 now", 0, x.caught(0));
        x.guard(0, -1);
        x.guard(3, 40);
        x.sight(0);
        due.is("14 at the last cell", 7, x.caught(2));
        due.is("14 bather beyond", Due.BEYOND, x.caught(3));
        due.is("14 bather below", Due.BEYOND, x.caught(-1));
        x.go(8);
        due.is("14 out", Due.NONE, x.caught(2));
    }

    private static void meet() {
        BathBorder x = new BathBorder();
        x.bather(0, 5);
        x.bather(5, 6);
        x.bather(0, 13);
        x.bather(2, 5);
        due.is("15 the child comes up", 1, x.meet(0, 1));
        due.is("15 the other way", 1, x.meet(1, 0));
        due.is("15 in other rows", Due.NONE, x.meet(0, 2));
        due.is("15 now", 0, x.meet(0, 3));
        due.is("15 one and the same", Due.BEYOND, x.meet(2, 2));
        due.is("15 a beyond", Due.BEYOND, x.meet(4, 0));
        due.is("15 b beyond", Due.BEYOND, x.meet(0, 4));
        due.is("15 below", Due.BEYOND, x.meet(-1, 0));
        due.is("15 b below", Due.BEYOND, x.meet(0, -1));
        x.change(0, 1, 0);
        x.change(1, 1, 8);
        x.go(1);
        due.is("15 both out is no cell", Due.NONE, x.meet(0, 1));
    }

    private static void kindFor() {
        BathBorder x = new BathBorder();
        x.bather(4, 13);
        due.is("16 child", 5, x.kindFor(0));
        x.change(0, 1, 9);
        due.is("16 several: the least", 0, x.kindFor(0));
        x.change(0, 1, 10);
        due.is("16 child is sooner", 5, x.kindFor(0));
        due.is("16 nothing changed", 4, x.of(0, 0));
        due.is("16 beyond", Due.BEYOND, x.kindFor(1));
        due.is("16 below", Due.BEYOND, x.kindFor(-1));
        x.change(0, 0, 0);
        x.change(0, 1, 8);
        x.change(0, 3, 5);
        due.is("16 there", 0, x.kindFor(0));
        x.go(1);
        due.is("16 out", 0, x.kindFor(0));
    }

    private static void sightFor() {
        BathBorder x = new BathBorder();
        x.bather(0, 7);
        due.is("17 no guard", 12, x.sightFor(0));
        x.guard(0, 24);
        due.is("17 the nearest is three rows off", 2, x.sightFor(0));
        x.guard(0, 0);
        due.is("17 with none", Due.NONE, x.sightFor(0));
        x.fill(0, 0, 2);
        due.is("17 steam", 0, x.sightFor(0));
        x.change(0, 0, 1);
        due.is("17 a spy stays where it is", 6, x.sightFor(0));
        x.fill(7, 0, 3);
        due.is("17 a spy in steam", 9, x.sightFor(0));
        due.is("17 sight is as it was", 4, x.now(4));
        due.is("17 beyond", Due.BEYOND, x.sightFor(1));
        due.is("17 below", Due.BEYOND, x.sightFor(-1));
        x.change(0, 0, 0);
        x.change(0, 1, 0);
        x.fill(0, 0, 0);
        x.go(1);
        due.is("17 out", 12, x.sightFor(0));
    }
}
