/** Promises 43 to 47: images, counts, findings. */
public final class ImagesTest {
    private static final Due due = new Due();

    public static void main(String[] args) {
        allIsKept();
        tapeAndSheetsAreNot();
        latest();
        tear();
        count();
        status();
        undoTakesNoFindingBack();
        everyFindingOfEveryAct();
        due.end();
    }

    private static BathBorder full() {
        BathBorder x = new BathBorder();
        x.fill(5, 0, 3);
        x.fill(6, 1, 2);
        x.guard(2, 17);
        x.sight(6);
        x.bather(6, 20);
        x.bather(0, 8);
        x.change(0, 2, 1);
        x.change(0, 3, 9);
        x.change(0, 4, 1);
        x.hold(4, 1);
        x.seed(77);
        x.go(3);
        return x;
    }

    /** A number that is another one if anything that an image keeps is another one. */
    private static long print(BathBorder x) {
        long print = 7;
        for (int cell = 0; cell < 10; cell++) {
            print = print * 31 + x.cell(cell, 0);
            print = print * 31 + x.cell(cell, 1);
        }
        for (int guard = 0; guard < 4; guard++) {
            int at = x.guard(guard, -1);
            x.guard(guard, at);
            print = print * 31 + at;
        }
        for (int b = 0; b < x.count(1); b++) {
            for (int what = 0; what < 5; what++) {
                print = print * 31 + x.of(b, what);
            }
        }
        int[] counts = {0, 1, 2, 3, 4, 6, 7};
        for (int what : counts) {
            print = print * 31 + x.count(what);
        }
        return print * 31 + x.now(4);
    }

    private static void allIsKept() {
        BathBorder x = full();
        long kept = print(x);
        due.is("43 kept", 1, x.image());
        due.is("44 at once", 3, x.undo());
        due.is("44 the same", kept, print(x));
        int spots = x.count(7);
        x.fill(5, 0, 4);
        x.fill(6, 1, 3);
        x.guard(2, -1);
        x.guard(0, 1);
        x.sight(7);
        x.bather(1, 1);
        x.change(0, 0, 1);
        x.change(0, 3, 1);
        x.swap(0, 2);
        x.hold(5, 2);
        x.hold(4, -1);
        x.steams(7);
        due.holds("43 another now", kept != print(x));
        due.is("44 minute", 3, x.undo());
        due.is("44 as it was", kept, print(x));
        due.is("44 spots", spots, x.count(7));
        due.is("44 what a spot holds", 1, x.as(4, 0));
        due.is("44 nothing there", Due.MISSING, x.as(5, 0));
        x.go(5);
        due.is("44 it stays", 3, x.undo());
        due.is("44 as it was again", kept, print(x));
    }

    private static void tapeAndSheetsAreNot() {
        BathBorder x = new BathBorder();
        Due.feed(x, "sig");
        Due.sheet(x, 0, 8, 5);
        x.image();
        Due.feed(x, "ht 2");
        x.write(0, 0, 6);
        x.sheet(1, 8, 2);
        x.undo();
        due.is("43 the tape stays", 7, x.count(5));
        due.is("43 the sheet stays", 1, x.load(0));
        due.is("43 its number", 6, x.cell(0, 0));
        due.is("43 the new sheet", 2, x.load(1));
        due.is("43 the text", 1, x.text());
        due.is("43 is read", 2, x.now(4));
    }

    private static void latest() {
        BathBorder x = new BathBorder();
        x.image();
        x.go(2);
        x.image();
        x.go(3);
        due.is("44 the latest", 2, x.undo());
        due.is("44 and no earlier one", 2, x.undo());
    }

    private static void tear() {
        BathBorder x = new BathBorder();
        due.is("44 nothing is kept", Due.NONE, x.undo());
        due.is("45 nothing was", 0, x.tear());
        x.image();
        x.image();
        due.is("45 something was", 1, x.tear());
        due.is("45 nothing is", 0, x.tear());
        x.go(1);
        due.is("44 nothing is kept any more", Due.NONE, x.undo());
        due.is("44 minute", 1, x.count(0));
    }

    private static void count() {
        BathBorder x = full();
        x.steams(1);
        Due.feed(x, "abc");
        int z = 77 * 1103515245 + 12345;
        int seenEver = x.now(3);
        int[] is = {4, 2, 1, seenEver, 4, 3, z, 1};
        due.holds("46 some were seen", seenEver > 0);
        for (int what = 0; what < is.length; what++) {
            due.is("46 what " + what, is[what], x.count(what));
        }
        due.is("46 beyond", Due.BEYOND, x.count(8));
        due.is("46 below", Due.BEYOND, x.count(-1));
    }

    private static void status() {
        BathBorder x = new BathBorder();
        due.is("47 another one", Due.BEYOND, x.status(7));
        due.is("47 counted from then on", 1, x.status(0));
        due.is("47 another one below", Due.BEYOND, x.status(-2));
        due.is("47 all", 2, x.status(-1));
        x.undo();
        x.undo();
        x.undo();
        x.load(0);
        x.load(0);
        x.sheet(0, 8, -1);
        x.bather(0, 0);
        x.hold(0, 0);
        x.as(0, 6);
        x.change(0, 4, 1);
        x.swaps();
        for (int b = 0; b < 9; b++) {
            x.bather(0, 0);
        }
        int[] is = {2, 2, 1, 3, 1, 2, 1};
        int all = 0;
        for (int which = 0; which < 7; which++) {
            due.is("47 which " + which, is[which], x.status(which));
            all += is[which];
        }
        due.is("47 all then", all, x.status(-1));
    }

    private static void undoTakesNoFindingBack() {
        BathBorder x = new BathBorder();
        x.image();
        x.go(0);
        x.undo();
        due.is("47 undo takes none back", 1, x.status(-1));
        x.seed(-1000004);
        x.seed(1);
        Due.text(x, "no");
        due.is("47 z and faults are none", 1, x.status(-1));
    }

    private static int asked = 0;

    private static void finding(BathBorder x, int which, long answer) {
        asked++;
        due.is("47 finding " + asked, -1000001 - which, answer);
        due.is("47 counted " + asked, asked, x.status(-1));
    }

    /** Each act that can tell a finding, once for each that it can tell. */
    private static void everyFindingOfEveryAct() {
        BathBorder x = new BathBorder();
        finding(x, 0, x.fill(-1, 0, 0));
        finding(x, 0, x.cell(-1, 0));
        finding(x, 0, x.guard(-1, 0));
        finding(x, 0, x.sight(-1));
        finding(x, 0, x.bather(-1, 0));
        finding(x, 0, x.of(0, 0));
        finding(x, 0, x.change(0, 0, 0));
        finding(x, 0, x.go(0));
        finding(x, 0, x.now(-1));
        finding(x, 0, x.ahead(0, 0));
        finding(x, 0, x.out(0));
        finding(x, 0, x.caught(0));
        finding(x, 0, x.meet(0, 0));
        finding(x, 0, x.kindFor(0));
        finding(x, 0, x.sightFor(0));
        finding(x, 0, x.way(-1, 0));
        finding(x, 0, x.next(-1, 0));
        finding(x, 0, x.steamFor(-1, 0));
        finding(x, 0, x.post(-1));
        finding(x, 0, x.posted(-1));
        finding(x, 0, x.trap(-1, 0));
        finding(x, 0, x.fits(-1));
        finding(x, 5, x.fits(0));
        finding(x, 0, x.swap(0, 0));
        finding(x, 0, x.tax(0, 0));
        finding(x, 0, x.boilers(-1, 1));
        finding(x, 0, x.steams(0));
        finding(x, 0, x.feed(0, 0));
        finding(x, 0, x.hold(-1, 0));
        finding(x, 0, x.as(-1, 0));
        finding(x, 5, x.as(0, 0));
        finding(x, 0, x.sheet(-1, 0, 0));
        finding(x, 6, x.sheet(0, 0, -1));
        finding(x, 0, x.write(-1, 0, 0));
        finding(x, 5, x.write(0, 0, 0));
        finding(x, 0, x.copy(-1, 0, 0, 0, 0));
        finding(x, 5, x.copy(0, 0, 0, 0, 0));
        finding(x, 0, x.load(-1));
        finding(x, 5, x.load(0));
        finding(x, 0, x.judge(-1));
        finding(x, 5, x.judge(0));
        finding(x, 3, x.undo());
        finding(x, 0, x.count(-1));
        finding(x, 0, x.status(-2));
        nones(x);
    }

    private static void nones(BathBorder x) {
        x.bather(4, 0);
        x.bather(4, 8);
        x.change(1, 4, 0);
        finding(x, 3, x.out(0));
        finding(x, 3, x.caught(0));
        finding(x, 3, x.meet(0, 1));
        finding(x, 4, x.swaps());
        x.sight(12);
        x.guard(0, 0);
        finding(x, 3, x.sightFor(0));
        finding(x, 3, x.way(0, 0));
        finding(x, 3, x.next(0, 0));
        finding(x, 3, x.steamFor(0, 0));
        x.guard(1, 40);
        finding(x, 3, x.row());
        x.sight(0);
        x.change(0, 0, 0);
        x.go(1);
        finding(x, 3, x.trap(0, 0));
    }
}
