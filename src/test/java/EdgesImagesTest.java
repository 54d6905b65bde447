/** Promises 43 to 47 at their edges: images, counts, findings. */
public final class EdgesImagesTest {
    private static final Due due = new Due();
    private static final Edge fresh = Edge.fresh(due);
    private static final Edge settled = Edge.settled(due);
    private static final Edge crowded = Edge.crowded(due);

    public static void main(String[] args) {
        image();
        undo();
        undoOfBathers();
        tear();
        count();
        status();
        statusOfEach();
        statusStays();
        due.end();
    }

    private static void image() {
        fresh.does("43 of a new object", 1, BathBorder::image);
        settled.does("43 once more", 1, BathBorder::image);
        fresh.and(x -> x.image()).does("44 of a new object", 0, BathBorder::undo);
        // An image of what was kept is what was kept.
        settled.and(x -> x.undo()).tells("43 the same again", 1, BathBorder::image);
    }

    private static void undo() {
        fresh.refused("44 nothing is kept", Due.NONE, BathBorder::undo);
        settled.and(x -> x.tear()).refused("44 nothing is kept any more", Due.NONE, BathBorder::undo);
        settled.does("44 the minute that was kept", 0, BathBorder::undo);
        settled.and(x -> x.undo()).tells("44 again nothing changes", 0, BathBorder::undo);
        settled.and(x -> x.image()).tells("44 at once nothing changes", 3, BathBorder::undo);
        settled.and(x -> x.image()).and(x -> x.go(60)).does("44 the latest", 3, BathBorder::undo);
        Edge back = settled.and(x -> x.undo());
        back.tells("44 steam", 4, x -> x.cell(3, 0));
        back.tells("44 z", -77, x -> x.count(6));
        back.tells("44 nobody is out", 0, x -> x.count(2));
        back.tells("44 spots", 2, x -> x.count(7));
        back.tells("44 the tape is as it is", 13, x -> x.count(5));
        Edge seen = fresh.and(x -> x.bather(4, 11)).and(x -> x.guard(0, 11)).and(x -> x.go(2)).and(x -> x.image());
        seen.and(x -> x.steams(3)).and(x -> x.undo()).tells("44 seen ever", 2, x -> x.count(3));
        seen.and(x -> x.steams(3)).and(x -> x.undo()).tells("44 wrinkles", 2, x -> x.of(0, 3));
        seen.and(x -> x.steams(3)).and(x -> x.undo()).tells("44 no draw", 1, x -> x.count(6));
        seen.and(x -> x.steams(3)).and(x -> x.undo()).tells("44 no steam", 0, x -> x.count(4));
        seen.and(x -> x.sight(9)).and(x -> x.undo()).tells("44 sight", 4, x -> x.now(4));
        seen.and(x -> x.guard(0, -1)).and(x -> x.undo()).does("44 guards", 11, x -> x.guard(0, 0));
        Edge wiped = settled.and(x -> x.wipe()).and(x -> x.sheet(0, 0, 0)).and(x -> x.sheet(3, 16, 4)).and(x -> x.undo());
        wiped.tells("44 the tape stays empty", 0, x -> x.count(5));
        wiped.refused("44 the sheet stays missing", Due.MISSING, x -> x.load(0));
        wiped.does("44 the new sheet stays", 4, x -> x.load(3));
    }

    /** Bathers who came behind the image are gone, and what they had; the next one is as new. */
    private static void undoOfBathers() {
        Edge gone = settled.and(x -> x.image()).and(x -> {
            x.bather(5, 9);
            x.bather(6, 9);
            for (int b = 6; b < 8; b++) {
                x.change(b, 2, 1);
                x.change(b, 3, 9);
                x.change(b, 4, 0);
                x.hold(b, b);
            }
            x.undo();
        });
        gone.tells("44 six again", 6, x -> x.count(1));
        gone.refused("44 the seventh is gone", Due.BEYOND, x -> x.of(6, 0));
        gone.refused("44 its spot is empty", Due.MISSING, x -> x.as(6, 0));
        gone.does("44 the next one's number", 6, x -> x.bather(0, 0));
        int[] as = {0, 0, 0, 0, 6};
        for (int what = 0; what < as.length; what++) {
            int asked = what;
            gone.and(x -> x.bather(0, 0)).tells("44 the next one's " + what, as[what], x -> x.of(6, asked));
        }
        Edge none = fresh.and(x -> x.image()).and(x -> {
            for (int b = 0; b < 8; b++) {
                x.bather(0, 0);
            }
        });
        none.refused("44 full", Due.FULL, x -> x.bather(0, 0));
        none.and(x -> x.undo()).does("44 room again", 0, x -> x.bather(0, 0));
    }

    private static void tear() {
        fresh.tells("45 nothing was", 0, BathBorder::tear);
        settled.does("45 something was", 1, BathBorder::tear);
        settled.and(x -> x.image()).and(x -> x.tear()).tells("45 nothing is, not even an older one", 0, BathBorder::tear);
        settled.and(x -> x.undo()).does("45 what was taken back stays kept", 1, BathBorder::tear);
        settled.and(x -> x.tear()).tells("45 the minute stays", 3, x -> x.count(0));
        settled.and(x -> x.tear()).and(x -> x.image()).does("45 kept anew", 1, BathBorder::tear);
        settled.and(x -> x.tear()).and(x -> x.image()).and(x -> x.go(1)).does("44 kept anew", 3, BathBorder::undo);
    }

    private static void count() {
        for (int what : new int[] {-1, 8, Edge.LEAST, Edge.MOST}) {
            settled.refused("46 what " + what, Due.BEYOND, x -> x.count(what));
        }
        int[] is = {3, 6, 1, 0, 14, 13, -77, 3};
        for (int what : new int[] {0, 1, 2, 4, 5, 6, 7}) {
            settled.tells("46 what " + what, is[what], x -> x.count(what));
        }
        crowded.tells("46 eight bathers", 8, x -> x.count(1));
        Edge steam = fresh.and(x -> {
            for (int cell = 0; cell < 48; cell++) {
                x.fill(cell, 0, 9);
            }
        });
        steam.tells("46 the most steam", 432, x -> x.count(4));
        settled.and(x -> {
            x.wipe();
            for (int i = 0; i < 30; i++) {
                x.feed(-1, 4);
            }
        }).tells("46 a full tape", 120, x -> x.count(5));
    }

    private static void status() {
        for (int which : new int[] {-2, 7, Edge.LEAST, Edge.MOST}) {
            settled.refused("47 which " + which, Due.BEYOND, x -> x.status(which));
            fresh.and(x -> x.status(which)).tells("47 counted from then on, " + which, 1, x -> x.status(0));
        }
        for (int which = -1; which < 7; which++) {
            int asked = which;
            fresh.tells("47 none of " + which, 0, x -> x.status(asked));
        }
    }

    /** Each finding by itself, three times. */
    private static void statusOfEach() {
        Edge[] told = {
            settled.and(x -> thrice(x, y -> y.go(0))),
            crowded.and(x -> thrice(x, y -> y.bather(0, 0))),
            settled.and(x -> thrice(x, y -> y.as(0, 6))),
            settled.and(x -> thrice(x, y -> y.out(4))),
            settled.and(x -> x.change(0, 4, 1)).and(x -> thrice(x, BathBorder::swaps)),
            settled.and(x -> thrice(x, y -> y.load(3))),
            settled.and(x -> thrice(x, y -> y.sheet(0, 8, -1))),
        };
        for (int finding = 0; finding < 7; finding++) {
            for (int which = 0; which < 7; which++) {
                int asked = which;
                told[finding].tells("47 three of " + finding + ", " + which, which == finding ? 3 : 0, x -> x.status(asked));
            }
            told[finding].tells("47 three of " + finding + ", all", 3, x -> x.status(-1));
        }
    }

    private static void thrice(BathBorder x, java.util.function.ToLongFunction<BathBorder> act) {
        for (int i = 0; i < 3; i++) {
            act.applyAsLong(x);
        }
    }

    /** Neither an image nor undo() nor tear() changes what has been counted. */
    private static void statusStays() {
        Edge counted = settled.and(x -> x.image()).and(x -> x.go(0)).and(x -> x.load(3));
        counted.and(x -> x.undo()).tells("47 undo takes none back", 2, x -> x.status(-1));
        counted.and(x -> x.tear()).tells("47 tear takes none back", 2, x -> x.status(-1));
        counted.and(x -> x.image()).and(x -> x.go(0)).and(x -> x.undo()).tells("47 nor the later ones", 3, x -> x.status(-1));
        fresh.and(x -> x.undo()).and(x -> x.image()).and(x -> x.undo()).tells("47 of undo itself", 1, x -> x.status(3));
        fresh.and(x -> Due.text(x, "swim")).tells("47 a fault is no finding", 0, x -> x.status(-1));
        fresh.and(x -> x.seed(Due.NONE)).and(x -> x.seed(1)).tells("47 z is no finding", 0, x -> x.status(-1));
    }
}
