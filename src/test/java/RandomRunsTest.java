import java.lang.reflect.Method;
import java.util.ArrayList;
import java.util.Arrays;
import java.util.Comparator;
import java.util.List;
import java.util.Random;

/** All promises: runs of 512 calls, drawn from fixed seeds, on the class and on the model. */
public final class RandomRunsTest {
    private static final int RUNS = 400;
    private static final int CALLS = 512;
    private static final Due due = new Due();
    private static final String[] WORDS = {"bather", "spy", "floater", "lover", "stayer", "child", "general", "at", "wish",
        "wrinkles", "steam", "current", "guard", "sight", "swim"};

    private final Random random;
    private final BathBorder x = new BathBorder();
    private final Model model = new Model();
    private final List<Method> methods = new ArrayList<>();
    private final int run;
    private int calls = 0;

    private RandomRunsTest(int run) {
        this.run = run;
        random = new Random(run);
        for (Method m : BathBorder.class.getDeclaredMethods()) {
            if (java.lang.reflect.Modifier.isPublic(m.getModifiers())) {
                methods.add(m);
            }
        }
        methods.sort(Comparator.comparing(Method::getName));
    }

    public static void main(String[] args) throws Exception {
        for (int run = 0; run < RUNS; run++) {
            new RandomRunsTest(run).play();
        }
        due.end();
    }

    private void play() throws Exception {
        if (random.nextInt(4) > 0) {
            settle();
        }
        while (calls < CALLS) {
            if (random.nextInt(20) == 0) {
                feedText();
            } else {
                call(methods.get(random.nextInt(methods.size())));
            }
        }
    }

    private void call(Method method, int... told) throws Exception {
        int n = method.getParameterCount();
        int[] a = told.length == n ? told : arguments(method.getName(), n);
        Object[] boxed = new Object[n];
        for (int i = 0; i < n; i++) {
            boxed[i] = a[i];
        }
        calls++;
        long want = model.act(method.getName(), a);
        long got = ((Number) method.invoke(x, boxed)).longValue();
        due.is("run " + run + " call " + calls + " " + method.getName() + Arrays.toString(a), want, got);
    }

    private void call(String name, int... a) throws Exception {
        for (Method m : methods) {
            if (m.getName().equals(name)) {
                call(m, a);
            }
        }
    }

    /** Some guards, bathers, steam and currents, so that there is something to see. */
    private void settle() throws Exception {
        int guards = random.nextInt(5);
        for (int g = 0; g < guards; g++) {
            call("guard", g, random.nextInt(48));
        }
        call("sight", random.nextInt(random.nextBoolean() ? 4 : 13));
        int bathers = random.nextInt(9);
        for (int b = 0; b < bathers; b++) {
            call("bather", random.nextInt(7), random.nextInt(48));
            call("change", b, 2, random.nextInt(2));
        }
        int fills = random.nextInt(60);
        for (int i = 0; i < fills; i++) {
            call("fill", random.nextInt(48), random.nextInt(2), random.nextInt(5));
        }
    }

    private int[] arguments(String name, int n) {
        int[] a = new int[n];
        for (int i = 0; i < n; i++) {
            a[i] = number();
        }
        if (name.equals("sheet") && random.nextInt(5) > 0) {
            a = new int[] {random.nextInt(4), 8 << random.nextInt(3), random.nextInt(12)};
        }
        if (name.equals("write") && random.nextInt(5) > 0) {
            a = new int[] {random.nextInt(4), random.nextInt(10), random.nextInt(60) - 2};
        }
        if (name.equals("copy") && random.nextInt(5) > 0) {
            a = new int[] {random.nextInt(4), random.nextInt(6), random.nextInt(4), random.nextInt(6), random.nextInt(6)};
        }
        if (name.equals("steams") || name.equals("go")) {
            a[0] = random.nextInt(6);
        }
        if (name.equals("load") && random.nextInt(3) > 0) {
            a[0] = 4;
        }
        return a;
    }

    private int number() {
        switch (random.nextInt(12)) {
            case 0: return random.nextInt();
            case 1: return random.nextInt(130) - 10;
            case 2: return random.nextInt(50) - 1;
            case 3: case 4: return random.nextInt(48);
            case 5: return -1 - random.nextInt(3);
            default: return random.nextInt(8);
        }
    }

    private void feedText() throws Exception {
        StringBuilder text = new StringBuilder();
        int items = 1 + random.nextInt(4);
        for (int i = 0; i < items; i++) {
            text.append(i > 0 ? ";" : "").append(item());
        }
        if (random.nextInt(3) == 0) {
            spoil(text);
        }
        String s = text.toString();
        call("wipe");
        for (int i = 0; i < s.length(); i += 4) {
            int n = Math.min(4, s.length() - i);
            int bytes = random.nextInt();
            for (int k = 0; k < n; k++) {
                bytes = bytes << 8 | s.charAt(i + k);
            }
            call("feed", bytes, n);
        }
        call("text");
    }

    private String item() {
        String blank = random.nextBoolean() ? " " : "";
        int cell = random.nextInt(random.nextInt(10) == 0 ? 60 : 48);
        switch (random.nextInt(8)) {
            case 0: return "steam" + blank + cell + " " + random.nextInt(10);
            case 1: return "current " + cell + " " + blank + random.nextInt(5);
            case 2: return "guard " + random.nextInt(4) + blank + "at" + blank + cell;
            case 3: return "guard" + blank + random.nextInt(4);
            case 4: return "sight" + blank + random.nextInt(13);
            default: return WORDS[random.nextInt(7)] + blank
                + (random.nextBoolean() ? " at" + blank + cell : "")
                + (random.nextBoolean() ? " wish" + blank + random.nextInt(2) : "")
                + (random.nextBoolean() ? " wrinkles" + blank + random.nextInt(100) : "");
        }
    }

    private void spoil(StringBuilder text) {
        int at = random.nextInt(text.length() + 1);
        switch (random.nextInt(6)) {
            case 0: text.setLength(at); break;
            case 1: text.insert(at, ";"); break;
            case 2: text.insert(at, (char) random.nextInt(256)); break;
            case 3: text.insert(at, " " + WORDS[random.nextInt(WORDS.length)] + " "); break;
            case 4: text.insert(at, random.nextInt(1200)); break;
            default: text.insert(at, " "); break;
        }
    }
}
