/** Promises 33 to 35 at their edges: the tape and texts. */
public final class EdgesTextsTest {
    private static final Due due = new Due();
    private static final Edge fresh = Edge.fresh(due);
    private static final Edge settled = Edge.settled(due);

    public static void main(String[] args) {
        feedRefused();
        feedFull();
        feedBytes();
        wipe();
        emptyAndFull();
        leastAndMost();
        leftOut();
        numbers();
        tokensSideBySide();
        blanks();
        places();
        endsTooEarly();
        ninth();
        faultChangesTapeAlone();
        itemByItem();
        due.end();
    }

    private static Edge taped(int bytes) {
        return settled.and(x -> x.wipe()).and(x -> {
            for (int i = 0; i < bytes; i++) {
                x.feed(' ', 1);
            }
        });
    }

    private static void feedRefused() {
        for (int n : new int[] {0, -1, 5, Edge.LEAST, Edge.MOST}) {
            settled.refused("33 n " + n, Due.BEYOND, x -> x.feed('a', n));
            taped(120).refused("33 n " + n + " ahead of full", Due.BEYOND, x -> x.feed('a', n));
        }
    }

    /** A tape takes all the bytes of a call or none. */
    private static void feedFull() {
        for (int n = 1; n <= 4; n++) {
            int bytes = n;
            taped(120).refused("33 full, " + n + " more", Due.FULL, x -> x.feed(-1, bytes));
            taped(121 - n).refused("33 one too many of " + n, Due.FULL, x -> x.feed(-1, bytes));
            taped(120 - n).does("33 just full by " + n, 120, x -> x.feed(-1, bytes));
        }
        fresh.does("33 the first byte", 1, x -> x.feed(0, 1));
        fresh.does("33 the first four", 4, x -> x.feed(0, 4));
    }

    /** The fault tells where a byte stands: the bytes of a word are eaten up to the first that is none of a word. */
    private static void feedBytes() {
        fresh.and(x -> x.feed(0x73707920, 4)).does("33 four bytes, the highest first", 1, BathBorder::text);
        fresh.and(x -> x.feed(0xff737079, 3)).does("33 three bytes, the fourth is left out", 1, BathBorder::text);
        fresh.and(x -> x.feed(0x73, 1)).and(x -> x.feed(0xffff7079, 2)).does("33 two bytes behind one", 1, BathBorder::text);
        fresh.and(x -> x.feed(0x7370, 2)).and(x -> x.feed(0xffffff79, 1)).does("33 one byte behind two", 1, BathBorder::text);
        fresh.and(x -> x.feed(0x737079, 4)).does("33 a byte 0 ahead", -1, BathBorder::text);
        fresh.and(x -> x.feed(0xff737079, 4)).does("33 a byte 255 ahead", -1, BathBorder::text);
        fresh.and(x -> x.feed(0x737079a0, 4)).does("33 a byte 160 behind", -4, BathBorder::text);
    }

    private static void wipe() {
        settled.and(x -> x.wipe()).tells("34 nothing was there", 0, BathBorder::wipe);
        taped(120).does("34 all was there", 120, BathBorder::wipe);
        taped(1).does("34 one was there", 1, BathBorder::wipe);
        taped(120).and(x -> x.wipe()).tells("34 nothing is there", 0, x -> x.count(5));
        taped(120).and(x -> x.wipe()).does("34 there is room", 4, x -> x.feed(0, 4));
        settled.and(x -> x.wipe()).tells("34 no text is left", -1, BathBorder::text);
    }

    private static void text(String what, long want, String text) {
        fresh.and(x -> Due.feed(x, text)).does("35 " + what + " <" + text + ">", want, BathBorder::text);
        fresh.and(x -> Due.feed(x, text)).and(x -> x.text()).tells("35 the tape is empty behind " + what, 0, x -> x.count(5));
    }

    private static void fault(int place, String text) {
        text("fault " + place, -1 - place, text);
    }

    private static void emptyAndFull() {
        text("an empty tape", -1, "");
        text("one item", 1, "spy");
        text("eight bathers", 8, "spy;spy;spy;spy;spy;spy;spy;spy");
        String forty = " ".repeat(40);
        text("120 bytes", 1, forty + "steam" + forty + "4" + " ".repeat(33) + "9");
        text("120 blanks", -121, forty + forty + forty);
        text("120 bytes, the last at fault", -120, forty + forty + " ".repeat(34) + "spy  ,");
        text("120 bytes, one number too few", -121, forty + forty + " ".repeat(33) + "steam 4");
    }

    /** Each number of each item at the least and the most that it may be, and one above. */
    private static void leastAndMost() {
        String[] kinds = {"bather", "spy", "floater", "lover", "stayer", "child", "general"};
        for (int kind = 0; kind < 7; kind++) {
            String word = kinds[kind];
            int k = kind;
            told(word, k, x -> x.of(0, 0));
            told(word + " at 0", 0, x -> x.of(0, 1));
            told(word + " at 47", 47, x -> x.of(0, 1));
            told(word + " wish 0", 0, x -> x.of(0, 2));
            told(word + " wish 1", 1, x -> x.of(0, 2));
            told(word + " wrinkles 0", 0, x -> x.of(0, 3));
            told(word + " wrinkles 99", 99, x -> x.of(0, 3));
            fault(word.length() + 4, word + " at 48");
            fault(word.length() + 6, word + " wish 2");
            fault(word.length() + 10, word + " wrinkles 100");
        }
        told("steam 0 0", 0, x -> x.cell(0, 0));
        told("steam 0 9", 9, x -> x.cell(0, 0));
        told("steam 47 9", 9, x -> x.cell(47, 0));
        told("current 0 0", 0, x -> x.cell(0, 1));
        told("current 0 4", 4, x -> x.cell(0, 1));
        told("current 47 4", 4, x -> x.cell(47, 1));
        told("guard 0 at 0", 1, x -> x.cell(0, 2));
        told("guard 3 at 47", 8, x -> x.cell(47, 2));
        told("sight 0", 0, x -> x.now(4));
        told("sight 12", 12, x -> x.now(4));
        fault(6, "steam 48 0");
        fault(8, "steam 0 10");
        fault(8, "current 48 0");
        fault(10, "current 0 5");
        fault(6, "guard 4 at 0");
        fault(11, "guard 3 at 48");
        fault(6, "sight 13");
    }

    private static void told(String text, long want, java.util.function.ToLongFunction<BathBorder> asked) {
        text("told", 1, text);
        fresh.and(x -> Due.text(x, text)).tells("35 told by <" + text + ">", want, asked);
    }

    /** What may be left out, and what is so then. */
    private static void leftOut() {
        told("spy wish 1 wrinkles 5", 0, x -> x.of(0, 1));
        told("spy at 5 wrinkles 5", 0, x -> x.of(0, 2));
        told("spy at 5 wish 1", 0, x -> x.of(0, 3));
        told("spy at 5 wish 1 wrinkles 6", 6, x -> x.of(0, 3));
        told("spy at 5 wish 1 wrinkles 6", 0, x -> x.of(0, 4));
        fresh.and(x -> x.guard(2, 9)).and(x -> Due.text(x, "guard 2")).tells("35 a guard without a cell", 0, x -> x.cell(9, 2));
        fresh.and(x -> x.guard(2, 9)).and(x -> Due.text(x, "guard 2")).does("35 a guard nowhere", -1, x -> x.guard(2, 9));
        fresh.and(x -> x.guard(2, 9)).and(x -> Due.text(x, "guard 2 at 8")).tells("35 a guard elsewhere", 0, x -> x.cell(13, 2));
        fresh.and(x -> x.guard(2, 9)).and(x -> Due.text(x, "guard 1")).tells("35 another guard", 4, x -> x.cell(9, 2));
        // In their order, and each once.
        fault(11, "spy wish 1 at 5");
        fault(15, "spy wrinkles 5 wish 1");
        fault(15, "spy wrinkles 5 at 5");
        fault(9, "spy at 5 at 5");
        fault(11, "spy wish 1 wish 1");
        fault(15, "spy wrinkles 1 wrinkles 1");
        fault(13, "guard 0 at 5 at 5");
        fault(8, "guard 0 wish 1");
        fault(8, "sight 0 at 5");
        fault(10, "steam 0 5 at 5");
    }

    private static void numbers() {
        fault(6, "sight 999");
        fault(6, "sight 1000");
        fault(6, "sight 1001");
        fault(6, "sight 4294967296");
        fault(6, "sight 4294967300");
        fault(6, "sight 18446744073709551616");
        fault(6, "sight 99999999999999999999");
        fault(7, "steam 5" + "x".repeat(3));
        told("sight 007", 7, x -> x.now(4));
        told("sight 000", 0, x -> x.now(4));
        told("sight 0000000000012", 12, x -> x.now(4));
        fault(6, "sight 0000000000013");
        fault(6, "sight -1");
        fault(6, "sight +1");
        fault(7, "sight 1.0");
    }

    /** A token goes as far as it can: the signs next to a, z, 0 and 9 end it, and begin none. */
    private static void tokensSideBySide() {
        for (char sign : new char[] {'`', '{', '/', ':', '<', '@', '[', 'A', 'Z', 'S', 'Y', '_', '-', ',', 0, 31, 33, 127, 128, 255}) {
            fault(0, sign + "spy");
            fault(3, "spy" + sign);
            fault(0, "sp" + sign + "y");
            fault(7, "sight 5" + sign);
            fault(7, "sight 1" + sign + "2");
            fault(4, "spy;" + sign);
        }
        text("word, number, sign", 2, "spy at5wish1wrinkles9;sight5");
        fault(0, "spyat 5");
        fault(4, "spy atwish 1");
        fault(0, "spyspy");
        fault(0, "sp y");
        fault(0, "s");
        fault(0, "a");
        fault(0, "z");
        fault(0, "spyy");
        fault(0, "spyz");
        fault(0, "spya");
        fault(0, "xpy");
        fault(0, "zspy");
        fault(0, "batherr");
        fault(0, "bathe");
        fault(4, "spy;at 5");
        fault(0, "at 5");
        fault(0, "wish 1");
        fault(0, "wrinkles 1");
    }


    private static void blanks() {
        text("blanks all about", 3, "   spy   at   5   ;   sight   3   ;   guard   0   ");
        text("blanks where they must be alone", 3, "spy at5;sight3;guard0");
        fault(0, "s py");
        fault(8, "sight 1 2");
        for (char sign : new char[] {9, 10, 11, 12, 13}) {
            fault(4, "spy " + sign);
            fault(0, sign + "spy");
        }
    }

    /** The first token that can't stand there, by its first byte. */
    private static void places() {
        fault(0, ";");
        fault(2, "  ;");
        fault(0, "5");
        fault(4, "spy;;spy");
        fault(4, "spy 5");
        fault(4, "spy steam 1 1");
        fault(8, "spy at  wish");
        fault(7, "spy at ;");
        fault(7, "spy at swim 5");
        fault(8, "sight 3 ,;;;");
        fault(4, "spy;swim;sight 99");
        fault(4, "spy swim at 99");
        fault(6, "steam spy");
        fault(6, "steam ;");
        fault(8, "steam 5 ;");
        fault(8, "steam 5 spy");
        fault(6, "steam 99 99");
        fault(6, "guard at 5");
        fault(6, "sight ;");
    }

    private static void endsTooEarly() {
        String[] texts = {"", " ", "steam", "steam ", "steam 5", "steam 5 ", "current", "current 5", "guard", "guard ",
            "guard 0 at", "guard 0 at ", "sight", "sight  ", "spy at", "spy at ", "spy wish", "spy at 5 wish", "spy wrinkles",
            "spy at 5 wish 1 wrinkles", "spy at 5 wish 1 wrinkles ", "spy;", "spy; ", "sight 5;", "steam 5 5 ;  "};
        for (String text : texts) {
            fault(text.length(), text);
        }
    }

    private static void ninth() {
        fault(32, "spy;spy;spy;spy;spy;spy;spy;spy;spy");
        fault(34, "spy;spy;spy;spy;spy;spy;spy;spy;  spy at 99");
        fault(32, "spy;spy;spy;spy;spy;spy;spy;spy;swim");
        Edge six = settled.and(x -> x.wipe());
        six.and(x -> Due.feed(x, "spy;child")).does("35 two more", 2, BathBorder::text);
        six.and(x -> Due.text(x, "spy;child wish 1")).tells("35 the eighth is a child", 5, x -> x.of(7, 0));
        six.and(x -> Due.text(x, "spy;child wish 1")).tells("35 the eighth's key", 7, x -> x.of(7, 4));
        six.and(x -> Due.feed(x, "spy;child;lover")).does("35 three more", -1 - 10, BathBorder::text);
        six.and(x -> Due.text(x, "spy;child;lover")).tells("35 six as before", 6, x -> x.count(1));
        Edge eight = six.and(x -> Due.text(x, "spy;spy"));
        eight.and(x -> Due.feed(x, "sight 3;guard 0")).does("35 full, but no bather", 2, BathBorder::text);
        eight.and(x -> Due.feed(x, "bather")).does("35 full", -1, BathBorder::text);
        eight.and(x -> Due.feed(x, "sight 3; general")).does("35 full behind an item", -1 - 9, BathBorder::text);
    }

    /** A text with a fault does what wipe() does, and no more; it is no finding. */
    private static void faultChangesTapeAlone() {
        String[] texts = {"", "swim", "steam 3 9;current 3 1;sight 0;guard 1;spy at 3;swim", "sight 0;", "spy;spy;spy",
            "steam 0 9;steam 0 10", "guard 1;guard 1 at", "current 10 0;current 48 0", "spy at 47 wish 1 wrinkles 100"};
        for (String text : texts) {
            Edge fed = settled.and(x -> x.wipe()).and(x -> Due.feed(x, text));
            fed.does("35 a fault in <" + text + ">", 1, x -> x.text() < 0 ? 1 : 0);
            // The twin's tape is wiped ahead, so that nothing is left to differ.
            settled.and(x -> x.wipe()).tells("35 changes nothing <" + text + ">", 1, x -> {
                Due.feed(x, text);
                return x.text() < 0 ? 1 : 0;
            });
        }
    }

    private static void itemByItem() {
        Edge told = fresh.and(x -> Due.text(x, "steam 5 1;steam 5 2;guard 0 at 5;guard 0;guard 1 at 5;sight 1;sight 3;spy;child at 9"));
        told.tells("35 the later steam", 2, x -> x.cell(5, 0));
        told.tells("35 the guards", 2, x -> x.cell(5, 2));
        told.tells("35 the later sight", 3, x -> x.now(4));
        told.tells("35 the first bather", 1, x -> x.of(0, 0));
        told.tells("35 the second bather", 9, x -> x.of(1, 1));
        told.tells("35 no minute", 0, x -> x.now(0));
    }
}
