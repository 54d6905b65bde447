/** Promises 9 to 11: minutes. */
public final class MinutesTest {
    private static final Due due = new Due();

    public static void main(String[] args) {
        outByKinds();
        wrinklesAndSeenEver();
        now();
        seen();
        wrong();
        outOnBothSides();
        seenEverAtMost();
        minuteAtMost();
        due.end();
    }

    private static void outByKinds() {
        BathBorder x = new BathBorder();
        for (int kind = 0; kind < 7; kind++) {
            x.bather(kind, 8);
        }
        x.bather(0, 9);
        due.is("9 all but the stayer", 6, x.go(1));
        due.is("9 stayer goes to the middle", 9, x.of(4, 1));
        due.is("9 bather went", 8, x.of(7, 1));
        due.is("9 the last", 7, x.go(1));
        due.is("9 out in the west", 100, x.of(7, 1));
        due.is("9 sixty more", 7, x.go(60));
        due.is("9 stayer stays", 11, x.of(4, 1));
        due.is("9 minute", 62, x.count(0));
    }

    private static void wrinklesAndSeenEver() {
        BathBorder x = new BathBorder();
        x.bather(0, 2);
        x.bather(2, 40);
        x.change(1, 2, 1);
        x.change(1, 3, 97);
        x.sight(1);
        x.guard(0, 0);
        x.guard(1, 40);
        due.is("9 none out", 0, x.go(1));
        due.is("9 both seen", 2, x.now(3));
        x.go(1);
        due.is("9 both seen again", 4, x.now(3));
        due.is("9 wrinkles", 2, x.of(0, 3));
        due.is("9 wrinkles 99", 99, x.of(1, 3));
        due.is("9 out now", 1, x.go(1));
        due.is("9 who gets out has no more wrinkles", 2, x.of(0, 3));
        due.is("9 wrinkles no more than 99", 99, x.of(1, 3));
        due.is("9 only who is in is seen", 5, x.now(3));
    }

    private static void now() {
        BathBorder x = new BathBorder();
        x.bather(0, 0);
        x.bather(0, 7);
        x.bather(1, 8);
        x.bather(0, 15);
        x.change(1, 2, 1);
        x.change(3, 2, 1);
        x.guard(0, 0);
        x.sight(1);
        x.go(1);
        int[] is = {1, 5, 10, 0, 1, 3};
        for (int what = 0; what < is.length; what++) {
            due.is("10 what " + what, is[what], x.now(what));
        }
        due.is("10 beyond", Due.BEYOND, x.now(6));
        due.is("10 below", Due.BEYOND, x.now(-1));
    }

    private static void seen() {
        BathBorder x = new BathBorder();
        due.is("11 none", 0, x.seen());
        x.sight(1);
        x.guard(2, 47);
        due.is("11 a corner", Due.set(47, 46, 39), x.seen());
        x.guard(0, 7);
        due.is("11 no way round the edge", Due.set(47, 46, 39, 7, 6, 15), x.seen());
        x.fill(39, 0, 1);
        due.is("11 steam", Due.set(47, 46, 7, 6, 15), x.seen());
        due.is("10 as many", 5, x.now(5));
    }

    private static void outOnBothSides() {
        BathBorder x = new BathBorder();
        x.bather(0, 0);
        x.bather(0, 7);
        x.bather(0, 12);
        x.change(1, 2, 1);
        due.is("9 one on each side", 2, x.go(1));
    }

    private static void seenEverAtMost() {
        BathBorder x = new BathBorder();
        for (int b = 0; b < 8; b++) {
            x.bather(4, 11);
        }
        x.guard(0, 11);
        for (int i = 0; i < 208; i++) {
            x.go(60);
        }
        due.is("9 seen ever", 8 * 208 * 60, x.now(3));
        x.go(19);
        due.is("9 seen ever, nearly", 99992, x.now(3));
        x.go(1);
        due.is("9 seen ever, at most", 99999, x.now(3));
        due.is("31 those of each minute, though", 8, x.steams(1));
        due.is("46 seen ever, at most", 99999, x.count(3));
    }

    /** This takes more calls than an object is promised for; no fewer come to the last minute. */
    private static void minuteAtMost() {
        BathBorder x = new BathBorder();
        for (int i = 0; i < 1666; i++) {
            x.go(60);
        }
        due.is("9 above 99999", Due.STATE, x.go(40));
        x.image();
        due.is("9 just not above", 0, x.go(39));
        due.is("9 to the last minute", 99999, x.now(0));
        due.is("44 back", 99960, x.undo());
        x.go(20);
        due.is("31 above 99999", Due.STATE, x.steams(20));
        due.is("31 no draw", 1, x.count(6));
        due.is("9 beyond ahead of state", Due.BEYOND, x.go(61));
        due.is("31 beyond ahead of state", Due.BEYOND, x.steams(21));
        due.is("31 just not above", 0, x.steams(19));
        due.is("9 the last minute", 99999, x.now(0));
        due.is("9 no more", Due.STATE, x.go(1));
        due.is("31 no more", Due.STATE, x.steams(1));
        due.is("9 still the last", 99999, x.count(0));
    }

    private static void wrong() {
        BathBorder x = new BathBorder();
        int[] wrong = {0, -1, 61, Integer.MAX_VALUE, Integer.MIN_VALUE};
        for (int n : wrong) {
            due.is("9 go " + n, Due.BEYOND, x.go(n));
        }
        due.is("9 nothing went by", 0, x.now(0));
        due.is("9 sixty", 0, x.go(60));
        due.is("9 went by", 60, x.now(0));
    }
}
