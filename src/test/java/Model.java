import java.util.ArrayDeque;
import java.util.ArrayList;
import java.util.Arrays;
import java.util.List;

/**
 * The document once more, as slowly and plainly as can be: it looks ahead by copies of all that there is,
 * and asks each cell and each guard again. RandomRunsTest holds the class against it.
 */
final class Model {

    /** What an act tells instead of an answer. */
    static final class Finding extends RuntimeException {
        private static final long serialVersionUID = 1L;
        final int which;

        Finding(int which) {
            super(null, null, false, false);
            this.which = which;
        }
    }

    static final class Person {
        int kind;
        int at;
        int wish;
        int wrinkles;
        int key;

        Person(int kind, int at, int key) {
            this.kind = kind;
            this.at = at;
            this.key = key;
        }

        boolean in() {
            return at < 48;
        }
    }

    static final class Bath {
        int[] steam = new int[48];
        int[] current = new int[48];
        int[] guards = {-1, -1, -1, -1};
        int sight = 4;
        List<Person> people = new ArrayList<>();
        int minute;
        int ever;
        int z = 1;
        int[] spots = {-1, -1, -1, -1, -1, -1, -1, -1, -1, -1};

        Bath twin() {
            Bath t = new Bath();
            t.steam = steam.clone();
            t.current = current.clone();
            t.guards = guards.clone();
            t.sight = sight;
            for (Person p : people) {
                Person q = new Person(p.kind, p.at, p.key);
                q.wish = p.wish;
                q.wrinkles = p.wrinkles;
                t.people.add(q);
            }
            t.minute = minute;
            t.ever = ever;
            t.z = z;
            t.spots = spots.clone();
            return t;
        }

        boolean seenBy(int guard, int cell) {
            if (guards[guard] < 0) {
                return false;
            }
            int rows = Math.abs(guards[guard] / 8 - cell / 8);
            int columns = Math.abs(guards[guard] % 8 - cell % 8);
            return rows + columns <= sight - steam[cell];
        }

        boolean seen(int cell) {
            return seenBy(0, cell) || seenBy(1, cell) || seenBy(2, cell) || seenBy(3, cell);
        }

        boolean seen(Person p) {
            return p.in() && seen(p.at);
        }

        int crossing(int cell, int wish) {
            if (wish == 0) {
                return cell % 8 == 0 ? cell : cell - 1;
            }
            return cell % 8 == 7 ? cell : cell + 1;
        }

        int floating(int cell) {
            if (current[cell] == 1 && cell >= 8) {
                return cell - 8;
            }
            if (current[cell] == 2 && cell % 8 != 7) {
                return cell + 1;
            }
            if (current[cell] == 3 && cell < 40) {
                return cell + 8;
            }
            if (current[cell] == 4 && cell % 8 != 0) {
                return cell - 1;
            }
            return cell;
        }

        int steps(Person p) {
            int to = p.at;
            if (!p.in()) {
                return to;
            }
            if (p.kind == 0) {
                to = crossing(p.at, p.wish);
            } else if (p.kind == 5) {
                to = crossing(crossing(p.at, p.wish), p.wish);
            } else if (p.kind == 1 || p.kind == 6) {
                to = crossing(p.at, p.wish);
                if (seen(to)) {
                    to = p.at;
                }
                if (p.kind == 6 && to == p.at && p.at + 8 < 48 && !seen(p.at + 8)) {
                    to = p.at + 8;
                }
            } else if (p.kind == 2 || current[p.at] != 0) {
                to = floating(p.at);
            } else if (p.at % 8 < 3) {
                to = p.at + 1;
            } else if (p.at % 8 > 4) {
                to = p.at - 1;
            }
            return to;
        }

        /** How many are at a cell that is seen then. */
        int pass() {
            int seen = 0;
            for (Person p : people) {
                if (!p.in()) {
                    continue;
                }
                if (p.kind != 4 && p.at % 8 == p.wish * 7) {
                    p.at = 100 + p.wish;
                    continue;
                }
                p.at = steps(p);
                p.wrinkles = Math.min(99, p.wrinkles + 1);
                if (seen(p)) {
                    seen++;
                    ever = Math.min(99999, ever + 1);
                }
            }
            minute = Math.min(99999, minute + 1);
            return seen;
        }

        int outNow() {
            int out = 0;
            for (Person p : people) {
                out += p.in() ? 0 : 1;
            }
            return out;
        }
    }

    private Bath bath = new Bath();
    private Bath kept = null;
    private String tape = "";
    private final int[][] sheets = new int[4][];
    private final int[] bits = new int[4];
    private final int[] status = new int[7];

    /** An act by its name: its answer, or the finding as it is told. */
    long act(String name, int... a) {
        try {
            return perform(name, a);
        } catch (Finding f) {
            status[f.which]++;
            return -1000001 - f.which;
        }
    }

    private static void beyondUnless(boolean fine) {
        unless(fine, 0);
    }

    private static void unless(boolean fine, int which) {
        if (!fine) {
            throw new Finding(which);
        }
    }

    private static boolean in(int v, int from, int to) {
        return from <= v && v <= to;
    }

    private boolean isOne(int b) {
        return in(b, 0, bath.people.size() - 1);
    }

    private long perform(String name, int[] a) {
        switch (name) {
            case "fill": {
                beyondUnless(in(a[0], 0, 47) && in(a[1], 0, 1) && in(a[2], 0, a[1] == 0 ? 9 : 4));
                int[] row = a[1] == 0 ? bath.steam : bath.current;
                int was = row[a[0]];
                row[a[0]] = a[2];
                return was;
            }
            case "cell": return cell(a[0], a[1]);
            case "guard": {
                beyondUnless(in(a[0], 0, 3) && in(a[1], -1, 47));
                int was = bath.guards[a[0]];
                bath.guards[a[0]] = a[1];
                return was;
            }
            case "sight": {
                beyondUnless(in(a[0], 0, 12));
                int was = bath.sight;
                bath.sight = a[0];
                return was;
            }
            case "bather": {
                beyondUnless(in(a[0], 0, 6) && in(a[1], 0, 47));
                unless(bath.people.size() < 8, 1);
                bath.people.add(new Person(a[0], a[1], bath.people.size()));
                return bath.people.size() - 1;
            }
            case "of": return of(a[0], a[1]);
            case "change": return change(a[0], a[1], a[2]);
            case "go": {
                beyondUnless(in(a[0], 1, 60));
                for (int i = 0; i < a[0]; i++) {
                    bath.pass();
                }
                return bath.outNow();
            }
            case "now": return now(a[0]);
            case "seen": return seen();
            case "ahead": {
                beyondUnless(isOne(a[0]) && in(a[1], 0, 100));
                return after(bath, a[1]).people.get(a[0]).at;
            }
            default: return performLater(name, a);
        }
    }

    private long performLater(String name, int[] a) {
        switch (name) {
            case "out": {
                beyondUnless(isOne(a[0]));
                return orNone(out(bath, a[0]));
            }
            case "caught": {
                beyondUnless(isOne(a[0]));
                return orNone(caught(bath, a[0]));
            }
            case "meet": {
                beyondUnless(isOne(a[0]) && isOne(a[1]) && a[0] != a[1]);
                Bath t = bath.twin();
                for (int m = 0; m <= 100; m++) {
                    if (t.people.get(a[0]).in() && t.people.get(a[0]).at == t.people.get(a[1]).at) {
                        return m;
                    }
                    t.pass();
                }
                throw new Finding(3);
            }
            case "kindFor": return kindFor(a[0]);
            case "sightFor": {
                beyondUnless(isOne(a[0]));
                int best = -1;
                for (int v = 0; v <= 12; v++) {
                    Bath t = bath.twin();
                    t.sight = v;
                    best = caught(t, a[0]) < 0 ? v : best;
                }
                return orNone(best);
            }
            case "way": {
                beyondUnless(in(a[0], 0, 47) && in(a[1], 0, 1));
                return orNone(way(a[0], a[1]));
            }
            case "next": return next(a[0], a[1]);
            case "steamFor": return steamFor(a[0], a[1]);
            case "row": return row();
            case "post": {
                beyondUnless(in(a[0], 0, 3));
                return post()[0];
            }
            case "posted": {
                beyondUnless(in(a[0], 0, 3));
                return post()[1];
            }
            case "trap": return trap(a[0], a[1]);
            case "enough": return enough();
            case "fits": return fits(a[0]);
            case "swaps": return swaps();
            case "swap": return swap(a[0], a[1]);
            default: return performLast(name, a);
        }
    }

    private long performLast(String name, int[] a) {
        switch (name) {
            case "tax": return tax(a[0], a[1]);
            case "boilers": {
                beyondUnless(in(a[0], 0, 40) && in(a[1], 1, 40));
                return boilers(a[0], a[1]);
            }
            case "steams": {
                beyondUnless(in(a[0], 1, 20));
                int sum = 0;
                for (int i = 0; i < a[0]; i++) {
                    bath.z = bath.z * 1103515245 + 12345;
                    int cell = (bath.z >>> 8) % 48;
                    bath.steam[cell] = Math.min(9, bath.steam[cell] + 1);
                    sum += bath.pass();
                }
                return sum;
            }
            case "seed": {
                int was = bath.z;
                bath.z = a[0];
                return was;
            }
            case "feed": {
                beyondUnless(in(a[1], 1, 4));
                unless(tape.length() + a[1] <= 120, 1);
                String all = "" + (char) (a[0] >>> 24) + (char) (a[0] >>> 16 & 255) + (char) (a[0] >>> 8 & 255) + (char) (a[0] & 255);
                tape += all.substring(4 - a[1]);
                return tape.length();
            }
            case "wipe": {
                int had = tape.length();
                tape = "";
                return had;
            }
            case "text": return text();
            case "hold": {
                beyondUnless(in(a[0], 0, 9) && (a[1] == -1 || isOne(a[1])));
                bath.spots[a[0]] = a[1];
                return 1;
            }
            case "as": {
                beyondUnless(in(a[0], 0, 9) && in(a[1], 0, 6));
                unless(bath.spots[a[0]] >= 0, 5);
                String[] under = {"0123456", "16", "234", "34", "4", "5", "6"};
                int kind = bath.people.get(bath.spots[a[0]]).kind;
                unless(under[a[1]].contains("" + kind), 2);
                return bath.spots[a[0]];
            }
            case "image": {
                kept = bath.twin();
                return 1;
            }
            case "undo": {
                unless(kept != null, 3);
                bath = kept.twin();
                return bath.minute;
            }
            case "tear": {
                int was = kept == null ? 0 : 1;
                kept = null;
                return was;
            }
            case "count": return count(a[0]);
            case "status": {
                beyondUnless(in(a[0], -1, 6));
                return a[0] < 0 ? Arrays.stream(status).sum() : status[a[0]];
            }
            default: return performSheets(name, a);
        }
    }

    private long performSheets(String name, int[] a) {
        beyondUnless(in(a[0], 0, 3));
        int[] row = sheets[a[0]];
        switch (name) {
            case "sheet": {
                beyondUnless(a[1] == 0 || a[1] == 8 || a[1] == 16 || a[1] == 32);
                unless(a[2] >= 0, 6);
                beyondUnless(a[2] <= 40);
                bits[a[0]] = a[1];
                sheets[a[0]] = a[1] == 0 ? null : new int[a[2]];
                return a[1] == 0 ? 0 : a[2];
            }
            case "write": {
                unless(row != null, 5);
                beyondUnless(in(a[1], 0, row.length - 1));
                int gone = 32 - bits[a[0]];
                row[a[1]] = a[2] << gone >> gone;
                return 1;
            }
            case "copy": {
                beyondUnless(in(a[2], 0, 3));
                int[] to = sheets[a[2]];
                unless(row != null && to != null, 5);
                unless(bits[a[0]] == bits[a[2]], 2);
                beyondUnless(a[1] >= 0 && a[3] >= 0 && a[4] >= 0);
                beyondUnless((long) a[1] + a[4] <= row.length && (long) a[3] + a[4] <= to.length);
                int[] were = row.clone();
                for (int i = 0; i < a[4]; i++) {
                    to[a[3] + i] = were[a[1] + i];
                }
                return a[4];
            }
            case "load": {
                unless(row != null, 5);
                for (int i = 0; i < row.length; i++) {
                    if (!in(row[i], 0, 9)) {
                        return i;
                    }
                    bath.steam[i] = row[i];
                }
                return row.length;
            }
            case "judge": {
                unless(row != null, 5);
                for (int i = 0; i < row.length; i++) {
                    boolean so = in(row[i], 0, 47) && !bath.seen(row[i]) && (i == 0 || beside(row[i - 1]).contains(row[i]));
                    if (!so) {
                        return 1 + i;
                    }
                }
                return 0;
            }
            default: throw new IllegalArgumentException(name);
        }
    }

    private static long orNone(int v) {
        unless(v >= 0, 3);
        return v;
    }

    private static Bath after(Bath from, int minutes) {
        Bath t = from.twin();
        for (int i = 0; i < minutes; i++) {
            t.pass();
        }
        return t;
    }

    private static int out(Bath from, int b) {
        Bath t = from.twin();
        for (int m = 0; m <= 100; m++) {
            if (!t.people.get(b).in()) {
                return m;
            }
            t.pass();
        }
        return -1;
    }

    private static int caught(Bath from, int b) {
        Bath t = from.twin();
        for (int m = 0; m <= 100; m++) {
            if (t.seen(t.people.get(b))) {
                return m;
            }
            t.pass();
        }
        return -1;
    }

    private static List<Integer> beside(int cell) {
        List<Integer> all = new ArrayList<>();
        for (int other = 0; other < 48; other++) {
            boolean inRow = other / 8 == cell / 8 && Math.abs(other - cell) == 1;
            if (inRow || Math.abs(other - cell) == 8) {
                all.add(other);
            }
        }
        return all;
    }

    private long cell(int cell, int what) {
        beyondUnless(in(cell, 0, 47) && in(what, 0, 3));
        if (what < 2) {
            return what == 0 ? bath.steam[cell] : bath.current[cell];
        }
        int sum = 0;
        if (what == 2) {
            for (int g = 0; g < 4; g++) {
                sum += bath.seenBy(g, cell) ? 1 << g : 0;
            }
            return sum;
        }
        for (Person p : bath.people) {
            sum += p.at == cell ? 1 : 0;
        }
        return sum;
    }

    private long of(int b, int what) {
        beyondUnless(isOne(b) && in(what, 0, 6));
        Person p = bath.people.get(b);
        int[] all = {p.kind, p.at, p.wish, p.wrinkles, p.key, bath.steps(p), bath.seen(p) ? 1 : 0};
        return all[what];
    }

    private long change(int b, int what, int v) {
        beyondUnless(isOne(b) && in(what, 0, 4));
        int[] most = {6, 47, 1, 99, 7};
        beyondUnless(in(v, 0, most[what]));
        long was = of(b, what);
        Person p = bath.people.get(b);
        p.kind = what == 0 ? v : p.kind;
        p.at = what == 1 ? v : p.at;
        p.wish = what == 2 ? v : p.wish;
        p.wrinkles = what == 3 ? v : p.wrinkles;
        p.key = what == 4 ? v : p.key;
        return was;
    }

    private long seen() {
        long set = 0;
        for (int cell = 0; cell < 48; cell++) {
            set += bath.seen(cell) ? 1L << cell : 0;
        }
        return set;
    }

    private long now(int what) {
        beyondUnless(in(what, 0, 5));
        int[] outs = new int[2];
        for (int b = 0; b < bath.people.size(); b++) {
            if (!bath.people.get(b).in()) {
                outs[bath.people.get(b).at - 100] += 1 << b;
            }
        }
        int[] all = {bath.minute, outs[0], outs[1], bath.ever, bath.sight, Long.bitCount(seen())};
        return all[what];
    }

    private long kindFor(int b) {
        beyondUnless(isOne(b));
        int best = -1;
        int fewest = 101;
        for (int kind = 6; kind >= 0; kind--) {
            Bath t = bath.twin();
            t.people.get(b).kind = kind;
            int m = out(t, b);
            if (m >= 0 && m <= fewest) {
                best = kind;
                fewest = m;
            }
        }
        return orNone(best);
    }

    private int way(int cell, int side) {
        int[] steps = new int[48];
        Arrays.fill(steps, -1);
        if (bath.seen(cell)) {
            return -1;
        }
        ArrayDeque<Integer> open = new ArrayDeque<>();
        open.add(cell);
        steps[cell] = 0;
        while (!open.isEmpty()) {
            int here = open.remove();
            if (here % 8 == side * 7) {
                return steps[here];
            }
            for (int to : beside(here)) {
                if (steps[to] < 0 && !bath.seen(to)) {
                    steps[to] = steps[here] + 1;
                    open.add(to);
                }
            }
        }
        return -1;
    }

    private long next(int cell, int side) {
        beyondUnless(in(cell, 0, 47) && in(side, 0, 1));
        int steps = way(cell, side);
        unless(steps >= 0, 3);
        if (steps == 0) {
            return cell;
        }
        for (int to : beside(cell)) {
            int rest = way(to, side);
            if (rest >= 0 && rest == steps - 1) {
                return to;
            }
        }
        throw new IllegalStateException("a way without a step");
    }

    /** Steam is tried degree by degree; 1000 if none hides the cell. */
    private int more(int cell) {
        Bath t = bath.twin();
        for (int v = bath.steam[cell]; v <= 9; v++) {
            t.steam[cell] = v;
            if (!t.seen(cell)) {
                return v - bath.steam[cell];
            }
        }
        return 1000;
    }

    private long steamFor(int cell, int side) {
        beyondUnless(in(cell, 0, 47) && in(side, 0, 1));
        int[] more = new int[48];
        int[] sum = new int[48];
        for (int c = 0; c < 48; c++) {
            more[c] = more(c);
            sum[c] = c % 8 == side * 7 ? more[c] : 1000;
        }
        for (int round = 0; round < 48; round++) {
            for (int c = 0; c < 48; c++) {
                for (int to : beside(c)) {
                    sum[c] = Math.min(sum[c], sum[to] + more[c]);
                }
            }
        }
        unless(sum[cell] < 1000, 3);
        return sum[cell];
    }

    private long row() {
        int best = -1;
        int least = 1000;
        for (int r = 0; r < 6; r++) {
            int sum = 0;
            for (int c = 0; c < 8; c++) {
                sum += more(r * 8 + c);
            }
            if (sum < least) {
                best = r;
                least = sum;
            }
        }
        return orNone(best);
    }

    private int[] post() {
        int[] best = {-1, -1};
        for (int cell = 0; cell < 48; cell++) {
            Bath t = bath.twin();
            Arrays.fill(t.guards, -1);
            t.guards[2] = cell;
            int cells = 0;
            for (int c = 0; c < 48; c++) {
                cells += t.seen(c) ? 1 : 0;
            }
            if (cells > best[1]) {
                best = new int[] {cell, cells};
            }
        }
        return best;
    }

    private long trap(int guard, int b) {
        beyondUnless(in(guard, 0, 3) && isOne(b));
        int best = -1;
        int fewest = 101;
        for (int cell = 0; cell < 48; cell++) {
            Bath t = bath.twin();
            t.guards[guard] = cell;
            int m = caught(t, b);
            if (m >= 0 && m < fewest) {
                best = cell;
                fewest = m;
            }
        }
        return orNone(best);
    }

    private long enough() {
        for (int many = 0; many <= 4; many++) {
            for (int set = 0; set < 16; set++) {
                if (Integer.bitCount(set) == many && sees(set)) {
                    return set;
                }
            }
        }
        throw new IllegalStateException("all see not all");
    }

    private boolean sees(int set) {
        for (int cell = 0; cell < 48; cell++) {
            boolean byOne = false;
            for (int g = 0; g < 4; g++) {
                byOne |= (set & 1 << g) != 0 && bath.seenBy(g, cell);
            }
            if (bath.seen(cell) && !byOne) {
                return false;
            }
        }
        return true;
    }

    private long fits(int s) {
        beyondUnless(in(s, 0, 3));
        unless(sheets[s] != null, 5);
        int set = 0;
        for (int b = 0; b < bath.people.size(); b++) {
            boolean fits = true;
            for (int i = 0; i < sheets[s].length; i++) {
                int told = sheets[s][i];
                fits &= told == -1 || told == after(bath, i).people.get(b).wrinkles;
            }
            set += fits ? 1 << b : 0;
        }
        return set;
    }

    /** Each swap that puts a key where it belongs is one that must be. */
    private long swaps() {
        int n = bath.people.size();
        int[] keys = new int[n];
        boolean[] has = new boolean[8];
        for (int b = 0; b < n; b++) {
            keys[b] = bath.people.get(b).key;
            has[keys[b]] = true;
        }
        for (int b = 0; b < n; b++) {
            unless(has[b], 4);
        }
        int swaps = 0;
        for (int b = 0; b < n; b++) {
            while (keys[b] != b) {
                int key = keys[b];
                keys[b] = keys[key];
                keys[key] = key;
                swaps++;
            }
        }
        return swaps;
    }

    private long swap(int a, int b) {
        beyondUnless(isOne(a) && isOne(b) && a != b);
        Person p = bath.people.get(a);
        Person q = bath.people.get(b);
        int was = p.key;
        p.key = q.key;
        q.key = was;
        return p.key == q.key ? 0 : 1;
    }

    private long tax(int b, int n) {
        beyondUnless(isOne(b) && in(n, 0, 100));
        int sum = 0;
        for (int m = 1; m <= n; m++) {
            int at = after(bath, m).people.get(b).at;
            sum += at == 100 ? 0 : at == 101 ? 7 : at % 8;
        }
        return sum;
    }

    /** By the length of the turn that goes on. */
    private static long boilers(int n, int k) {
        long[] turns = new long[42];
        if (n == 0) {
            return 1;
        }
        turns[1] = 2;
        for (int i = 2; i <= n; i++) {
            long all = 0;
            for (int t = 40; t >= 1; t--) {
                all += turns[t];
                turns[t + 1] = t + 1 <= k ? turns[t] : 0;
            }
            turns[1] = all;
        }
        long sum = 0;
        for (long t : turns) {
            sum += t;
        }
        return sum;
    }

    private long count(int what) {
        beyondUnless(in(what, 0, 7));
        int steam = Arrays.stream(bath.steam).sum();
        int held = (int) Arrays.stream(bath.spots).filter(s -> s >= 0).count();
        int[] all = {bath.minute, bath.people.size(), bath.outNow(), bath.ever, steam, tape.length(), bath.z, held};
        return all[what];
    }

    // A text is cut into tokens first; the items then take them one by one.

    private static final class Token {
        final String text;
        final int place;

        Token(String text, int place) {
            this.text = text;
            this.place = place;
        }
    }

    private static final class Fault extends Exception {
        private static final long serialVersionUID = 1L;
        final int place;

        Fault(int place) {
            this.place = place;
        }
    }

    private ArrayDeque<Token> tokens;
    private Bath told;

    private long text() {
        tokens = new ArrayDeque<>();
        java.util.regex.Matcher m = java.util.regex.Pattern.compile("[a-z]+|[0-9]+|[^ ]").matcher(tape);
        while (m.find()) {
            tokens.add(new Token(m.group(), m.start()));
        }
        tokens.add(new Token("", tape.length()));
        told = bath.twin();
        tape = "";
        try {
            int items = 0;
            do {
                item();
                items++;
            } while (may(";"));
            if (!tokens.element().text.isEmpty()) {
                throw new Fault(tokens.element().place);
            }
            bath = told;
            return items;
        } catch (Fault f) {
            return -1 - f.place;
        }
    }

    private boolean may(String text) {
        if (tokens.element().text.equals(text)) {
            tokens.remove();
            return true;
        }
        return false;
    }

    private int number(int most) throws Fault {
        Token t = tokens.element();
        if (!t.text.matches("[0-9]+") || new java.math.BigInteger(t.text).compareTo(java.math.BigInteger.valueOf(most)) > 0) {
            throw new Fault(t.place);
        }
        tokens.remove();
        return new java.math.BigInteger(t.text).intValue();
    }

    private void item() throws Fault {
        Token t = tokens.element();
        int kind = Arrays.asList("bather", "spy", "floater", "lover", "stayer", "child", "general").indexOf(t.text);
        if (kind >= 0 && told.people.size() < 8) {
            tokens.remove();
            Person p = new Person(kind, 0, told.people.size());
            told.people.add(p);
            p.at = may("at") ? number(47) : 0;
            p.wish = may("wish") ? number(1) : 0;
            p.wrinkles = may("wrinkles") ? number(99) : 0;
        } else if (may("steam")) {
            int cell = number(47);
            told.steam[cell] = number(9);
        } else if (may("current")) {
            int cell = number(47);
            told.current[cell] = number(4);
        } else if (may("guard")) {
            int guard = number(3);
            told.guards[guard] = may("at") ? number(47) : -1;
        } else if (may("sight")) {
            told.sight = number(12);
        } else {
            throw new Fault(t.place);
        }
    }
}
