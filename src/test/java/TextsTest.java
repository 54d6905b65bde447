/** Promises 33 to 35: texts. */
public final class TextsTest {
    private static final Due due = new Due();

    public static void main(String[] args) {
        feed();
        wipe();
        itemsOfBathers();
        otherItems();
        blanksAndNumbers();
        faults();
        faultsOfNinth();
        nothingChangesWithFault();
        longest();
        due.end();
    }

    private static void feed() {
        BathBorder x = new BathBorder();
        due.is("33 four", 4, x.feed(0x73696768, 4));
        due.is("33 one, the lowest", 5, x.feed(0x73696774, 1));
        due.is("33 three", 8, x.feed(0x7a202039, 3));
        due.is("35 sight  9", 1, x.text());
        due.is("33 as fed", 9, x.now(4));
        x.feed(0x7a7a7a7a, 2);
        due.is("33 n beyond", Due.BEYOND, x.feed(0, 5));
        due.is("33 n none", Due.BEYOND, x.feed(0, 0));
        due.is("33 n below", Due.BEYOND, x.feed(0, -1));
        due.is("33 has", 2, x.count(5));
        for (int i = 0; i < 29; i++) {
            x.feed(0x20202020, 4);
        }
        due.is("33 full", Due.FULL, x.feed(0, 3));
        due.is("33 beyond ahead of full", Due.BEYOND, x.feed(0, 5));
        due.is("33 just not full", 120, x.feed(0, 2));
        due.is("33 full by one", Due.FULL, x.feed(0, 1));
        due.is("33 still has", 120, x.count(5));
    }

    private static void wipe() {
        BathBorder x = new BathBorder();
        due.is("34 none", 0, x.wipe());
        Due.feed(x, "sight 3");
        due.is("34 had", 7, x.wipe());
        due.is("34 is empty", 0, x.count(5));
        due.is("35 an empty text", -1, x.text());
        due.is("34 sight is as it was", 4, x.now(4));
    }

    private static void itemsOfBathers() {
        BathBorder x = new BathBorder();
        due.is("35 kinds", 4, Due.text(x, "bather;spy at 47;floater wish 1;lover wrinkles 99"));
        due.is("35 the tape is empty", 0, x.count(5));
        due.is("35 more kinds", 3, Due.text(x, "stayer at 5 wish 1;child at 6 wrinkles 7;general at 9 wish 0 wrinkles 0"));
        int[][] all = {{0, 0, 0, 0}, {1, 47, 0, 0}, {2, 0, 1, 0}, {3, 0, 0, 99}, {4, 5, 1, 0}, {5, 6, 0, 7}, {6, 9, 0, 0}};
        due.is("35 how many", 7, x.count(1));
        for (int b = 0; b < 7; b++) {
            for (int what = 0; what < 4; what++) {
                due.is("35 bather " + b + " " + what, all[b][what], x.of(b, what));
            }
            due.is("35 key of " + b, b, x.of(b, 4));
        }
    }

    private static void otherItems() {
        BathBorder x = new BathBorder();
        x.guard(1, 5);
        due.is("35 items", 8, Due.text(x,
            "steam 47 9;steam 0 1;steam 0 2;current 47 4;current 1 0;guard 3 at 47;guard 1;sight 0"));
        due.is("35 steam", 9, x.cell(47, 0));
        due.is("35 item by item", 2, x.cell(0, 0));
        due.is("35 current", 4, x.cell(47, 1));
        due.is("35 sight", 0, x.now(4));
        due.is("35 guard", 47, x.guard(3, -1));
        due.is("35 guard nowhere", -1, x.guard(1, -1));
    }

    private static void blanksAndNumbers() {
        BathBorder x = new BathBorder();
        due.is("35 no blanks", 2, Due.text(x, "spy at3wish1wrinkles4;sight7"));
        due.is("35 at", 3, x.of(0, 1));
        due.is("35 wrinkles", 4, x.of(0, 3));
        due.is("35 blanks all over", 2, Due.text(x, "  steam   3   4  ;  sight  2  "));
        due.is("35 steam", 4, x.cell(3, 0));
        due.is("35 digits without worth", 1, Due.text(x, "sight 0000000000000000000012"));
        due.is("35 sight", 12, x.now(4));
        due.is("35 many digits", -7, Due.text(x, "sight 4294967297"));
        due.is("35 more digits", -7, Due.text(x, "sight 18446744073709551617"));
    }

    private static void fault(String text, int place) {
        BathBorder x = new BathBorder();
        due.is("35 fault of <" + text + ">", -1 - place, Due.text(x, text));
        due.is("35 the tape is empty", 0, x.count(5));
        due.is("35 a fault is no finding", 0, x.status(-1));
    }

    private static void faults() {
        fault("", 0);
        fault("   ", 3);
        fault(";", 0);
        fault(" 5", 1);
        fault("sight 3;", 8);
        fault("sight 3; ", 9);
        fault("sight 3;;sight 3", 8);
        fault("sight", 5);
        fault("sight  ", 7);
        fault("sight at", 6);
        fault("sight 13", 6);
        fault("sight 3 3", 8);
        fault("sight 3 spy", 8);
        fault("sights 3", 0);
        fault("Sight 3", 0);
        fault("sIght 3", 0);
        fault("sighT 3", 0);
        fault("steam", 5);
        fault("steam 48 0", 6);
        fault("steam 0", 7);
        fault("steam 0 10", 8);
        fault("steam 0;", 7);
        fault("steam 4 7 1", 10);
        fault("current 0 5", 10);
        fault("current at 5", 8);
        fault("guard", 5);
        fault("guard 4", 6);
        fault("guard 0 at", 10);
        fault("guard 0 at 48", 11);
        fault("guard 0 wish 1", 8);
        fault("guard 0 3", 8);
        fault("spy at", 6);
        fault("spy at wish", 7);
        fault("spy at 48", 7);
        fault("spy at 1 at 2", 9);
        fault("spy wish 2", 9);
        fault("spy wish 1 at 1", 11);
        fault("spy wrinkles 100", 13);
        fault("spy wrinkles 9 wish 1", 15);
        fault("spy 3", 4);
        fault("spy spy", 4);
        fault("swim", 0);
        fault("xpy", 0);
        fault("spyz", 0);
        fault("zspy", 0);
        fault("spyat3", 0);
        fault("spy atwish 1", 4);
        fault("sight 3" + (char) 9, 7);
        fault("sight 3" + (char) 0, 7);
        fault("sight 3" + (char) 255, 7);
        fault("sight -3", 6);
        fault("sight 3,steam 0 0", 7);
        fault("spy at4x", 7);
    }

    private static void faultsOfNinth() {
        BathBorder x = new BathBorder();
        for (int b = 0; b < 6; b++) {
            x.bather(0, b);
        }
        due.is("35 the ninth", -1 - 8, Due.text(x, "spy;spy;spy at 99"));
        due.is("35 six as before", 6, x.count(1));
        due.is("35 to the eighth", 2, Due.text(x, "spy;spy at 3"));
        due.is("35 eight", 8, x.count(1));
        due.is("35 the ninth at once", -1, Due.text(x, "bather"));
        due.is("35 another item", 1, Due.text(x, "sight 1"));
    }

    private static void nothingChangesWithFault() {
        BathBorder x = new BathBorder();
        x.guard(0, 3);
        due.is("35 fault", -1 - 45, Due.text(x, "sight 9;steam 3 4;current 3 1;guard 0;spy at ; sight 4"));
        due.is("35 sight", 4, x.now(4));
        due.is("35 steam", 0, x.cell(3, 0));
        due.is("35 current", 0, x.cell(3, 1));
        due.is("35 bathers", 0, x.count(1));
        due.is("35 guard", 3, x.guard(0, -1));
    }

    private static void longest() {
        BathBorder x = new BathBorder();
        StringBuilder text = new StringBuilder();
        for (int i = 0; i < 14; i++) {
            text.append("sight ").append(i % 10).append(';');
        }
        text.append("sight 11");
        due.is("35 120 bytes", 120, text.length());
        due.is("35 fifteen items", 15, Due.text(x, text.toString()));
        due.is("35 the last", 11, x.now(4));
    }
}
