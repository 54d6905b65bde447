/** A border that is a bath: see README.md for how it is used, and the document for what it promises. */
public final class BathBorder {

    private static final int LOW = -1000001;
    private static final int BEYOND = 0;
    private static final int FULL = 1;
    private static final int KIND = 2;
    private static final int NONE = 3;
    private static final int STATE = 4;
    private static final int MISSING = 5;
    private static final int SIZE = 6;
    private static final int FINDINGS = 7;

    private static final int MOST_STEAM = 9;
    private static final int MOST_CURRENT = 4;
    private static final int MOST_SIGHT = 12;
    private static final int MOST_WRINKLES = 99;
    private static final int MOST_EVER = 99999;
    private static final int MOST_AHEAD = 100;
    private static final int MOST_GO = 60;
    private static final int MOST_STEAMS = 20;
    private static final int MOST_BOILED = 40;
    private static final int GUARDS = 4;
    private static final int BATHERS = 8;
    private static final int KINDS = 7;
    private static final int SPOTS = 10;
    private static final int SHEETS = 4;

    private final World world;
    private final World kept;
    private final World trial;
    private boolean isKept;
    private final Walker walker;
    private final Walker other;
    private final Ways ways;
    private final Tape tape;
    private final TextReader reader;
    private final Sheet[] sheets;
    private final int[] found;
    private final long[] byGuard;
    private final long[] heated;

    public BathBorder() {
        world = new World();
        kept = new World();
        trial = new World();
        isKept = false;
        walker = new Walker(world);
        other = new Walker(world);
        ways = new Ways(world);
        tape = new Tape();
        reader = new TextReader(tape, trial);
        sheets = new Sheet[SHEETS];
        for (int s = 0; s < SHEETS; s++) {
            sheets[s] = new Sheet();
        }
        found = new int[FINDINGS];
        byGuard = new long[GUARDS];
        heated = new long[MOST_BOILED + 1];
    }

    // ---- the bath, guards, bathers

    public int fill(int cell, int what, int v) {
        if (!Cells.isCell(cell) || !isWithin(what, 0, 1)) {
            return finding(BEYOND);
        }
        if (!isWithin(v, 0, what == 0 ? MOST_STEAM : MOST_CURRENT)) {
            return finding(BEYOND);
        }
        return replace(what == 0 ? world.steam : world.current, cell, v);
    }

    public int cell(int cell, int what) {
        if (!Cells.isCell(cell)) {
            return finding(BEYOND);
        }
        switch (what) {
            case 0:
                return world.steam[cell];
            case 1:
                return world.current[cell];
            case 2:
                return world.guardsWhoSee(cell);
            case 3:
                return world.howManyAt(cell);
            default:
                return finding(BEYOND);
        }
    }

    public int guard(int guard, int cell) {
        if (!isGuard(guard) || !isWithin(cell, -1, Cells.COUNT - 1)) {
            return finding(BEYOND);
        }
        return replace(world.guardAt, guard, cell);
    }

    public int sight(int v) {
        if (!isWithin(v, 0, MOST_SIGHT)) {
            return finding(BEYOND);
        }
        int was = world.sight;
        world.sight = v;
        return was;
    }

    public int bather(int kind, int cell) {
        if (!isKind(kind) || !Cells.isCell(cell)) {
            return finding(BEYOND);
        }
        if (world.bathers >= BATHERS) {
            return finding(FULL);
        }
        return world.admit(kind, cell);
    }

    public int of(int bather, int what) {
        if (!isBather(bather)) {
            return finding(BEYOND);
        }
        switch (what) {
            case 0:
                return world.kind[bather];
            case 1:
                return world.at[bather];
            case 2:
                return world.wish[bather];
            case 3:
                return world.wrinkles[bather];
            case 4:
                return world.key[bather];
            case 5:
                walker.take(bather);
                return walker.target(world.seenCells(world.sight));
            case 6:
                walker.take(bather);
                return walker.isSeen(world.seenCells(world.sight)) ? 1 : 0;
            default:
                return finding(BEYOND);
        }
    }

    public int change(int bather, int what, int v) {
        if (!isBather(bather)) {
            return finding(BEYOND);
        }
        switch (what) {
            case 0:
                return changeWithin(world.kind, bather, v, KINDS - 1);
            case 1:
                return changeWithin(world.at, bather, v, Cells.COUNT - 1);
            case 2:
                return changeWithin(world.wish, bather, v, 1);
            case 3:
                return changeWithin(world.wrinkles, bather, v, MOST_WRINKLES);
            case 4:
                return changeWithin(world.key, bather, v, BATHERS - 1);
            default:
                return finding(BEYOND);
        }
    }

    // ---- minutes

    public int go(int n) {
        if (!isWithin(n, 1, MOST_GO)) {
            return finding(BEYOND);
        }
        if (world.minute + n > MOST_EVER) {
            return finding(STATE);
        }
        // Neither steam nor guards change meanwhile, so what is seen holds for all n.
        long seen = world.seenCells(world.sight);
        for (int i = 0; i < n; i++) {
            passMinute(seen);
        }
        return world.howManyOut();
    }

    public int now(int what) {
        switch (what) {
            case 0:
                return world.minute;
            case 1:
                return world.whoIsAt(World.OUT_WEST);
            case 2:
                return world.whoIsAt(World.OUT_EAST);
            case 3:
                return world.seenEver;
            case 4:
                return world.sight;
            case 5:
                return Long.bitCount(world.seenCells(world.sight));
            default:
                return finding(BEYOND);
        }
    }

    public long seen() {
        return world.seenCells(world.sight);
    }

    // ---- what will be (nothing changes)

    public int ahead(int bather, int n) {
        if (!isBather(bather) || !isWithin(n, 0, MOST_AHEAD)) {
            return finding(BEYOND);
        }
        long seen = world.seenCells(world.sight);
        walker.take(bather);
        for (int i = 0; i < n; i++) {
            walker.pass(seen);
        }
        return walker.at;
    }

    public int out(int bather) {
        if (!isBather(bather)) {
            return finding(BEYOND);
        }
        walker.take(bather);
        int minutes = walker.minutesTillOut(world.seenCells(world.sight), MOST_AHEAD);
        return minutes < 0 ? finding(NONE) : minutes;
    }

    public int caught(int bather) {
        if (!isBather(bather)) {
            return finding(BEYOND);
        }
        walker.take(bather);
        int minutes = walker.minutesTillSeen(world.seenCells(world.sight), MOST_AHEAD);
        return minutes < 0 ? finding(NONE) : minutes;
    }

    public int meet(int a, int b) {
        if (!isBather(a) || !isBather(b) || a == b) {
            return finding(BEYOND);
        }
        long seen = world.seenCells(world.sight);
        walker.take(a);
        other.take(b);
        for (int minutes = 0; minutes <= MOST_AHEAD; minutes++) {
            if (walker.isIn() && walker.at == other.at) {
                return minutes;
            }
            walker.pass(seen);
            other.pass(seen);
        }
        return finding(NONE);
    }

    public int kindFor(int bather) {
        if (!isBather(bather)) {
            return finding(BEYOND);
        }
        long seen = world.seenCells(world.sight);
        int best = -1;
        int fewest = MOST_AHEAD + 1;
        for (int kind = 0; kind < KINDS; kind++) {
            walker.take(bather);
            walker.kind = kind;
            int minutes = walker.minutesTillOut(seen, fewest - 1);
            if (minutes >= 0) {
                best = kind;
                fewest = minutes;
            }
        }
        return best < 0 ? finding(NONE) : best;
    }

    public int sightFor(int bather) {
        if (!isBather(bather)) {
            return finding(BEYOND);
        }
        for (int sight = MOST_SIGHT; sight >= 0; sight--) {
            walker.take(bather);
            if (walker.minutesTillSeen(world.seenCells(sight), MOST_AHEAD) < 0) {
                return sight;
            }
        }
        return finding(NONE);
    }

    // ---- ways unseen

    public int way(int cell, int side) {
        if (!Cells.isCell(cell) || !isSide(side)) {
            return finding(BEYOND);
        }
        int steps = Ways.fewestSteps(cell, side, ~world.seenCells(world.sight));
        return steps < 0 ? finding(NONE) : steps;
    }

    public int next(int cell, int side) {
        if (!Cells.isCell(cell) || !isSide(side)) {
            return finding(BEYOND);
        }
        int target = Ways.firstStep(cell, side, ~world.seenCells(world.sight));
        return target < 0 ? finding(NONE) : target;
    }

    public int steamFor(int cell, int side) {
        if (!Cells.isCell(cell) || !isSide(side)) {
            return finding(BEYOND);
        }
        int sum = ways.leastSteam(cell, side);
        return sum < 0 ? finding(NONE) : sum;
    }

    public int row() {
        int best = ways.cheapestRow();
        return best < 0 ? finding(NONE) : best;
    }

    // ---- guards

    public int post(int guard) {
        if (!isGuard(guard)) {
            return finding(BEYOND);
        }
        return world.bestPost();
    }

    public int posted(int guard) {
        if (!isGuard(guard)) {
            return finding(BEYOND);
        }
        return Long.bitCount(world.seenFrom(world.bestPost(), world.sight));
    }

    public int trap(int guard, int bather) {
        if (!isGuard(guard) || !isBather(bather)) {
            return finding(BEYOND);
        }
        long others = world.seenByOthers(guard);
        int best = -1;
        int fewest = MOST_AHEAD + 1;
        for (int cell = 0; cell < Cells.COUNT && fewest > 0; cell++) {
            walker.take(bather);
            int minutes = walker.minutesTillSeen(others | world.seenFrom(cell, world.sight), fewest - 1);
            if (minutes >= 0) {
                best = cell;
                fewest = minutes;
            }
        }
        return best < 0 ? finding(NONE) : best;
    }

    public int enough() {
        for (int guard = 0; guard < GUARDS; guard++) {
            byGuard[guard] = world.seenFrom(world.guardAt[guard], world.sight);
        }
        int all = (1 << GUARDS) - 1;
        long seen = seenTogether(all);
        int best = all;
        for (int set = 0; set < all; set++) {
            if (Integer.bitCount(set) < Integer.bitCount(best) && seenTogether(set) == seen) {
                best = set;
            }
        }
        return best;
    }

    // ---- names, keys

    public int fits(int s) {
        if (!isSheet(s)) {
            return finding(BEYOND);
        }
        if (sheets[s].isMissing()) {
            return finding(MISSING);
        }
        long seen = world.seenCells(world.sight);
        int set = 0;
        for (int b = 0; b < world.bathers; b++) {
            walker.take(b);
            if (walker.hasWrinkles(sheets[s], seen)) {
                set |= 1 << b;
            }
        }
        return set;
    }

    public int swaps() {
        int swaps = world.swapsToOrder();
        return swaps < 0 ? finding(STATE) : swaps;
    }

    public int swap(int a, int b) {
        if (!isBather(a) || !isBather(b) || a == b) {
            return finding(BEYOND);
        }
        if (world.key[a] == world.key[b]) {
            return 0;
        }
        world.key[a] = replace(world.key, b, world.key[a]);
        return 1;
    }

    // ---- taxes, boilers

    public int tax(int bather, int n) {
        if (!isBather(bather) || !isWithin(n, 0, MOST_AHEAD)) {
            return finding(BEYOND);
        }
        long seen = world.seenCells(world.sight);
        walker.take(bather);
        int sum = 0;
        for (int i = 0; i < n; i++) {
            walker.pass(seen);
            sum += walker.taxedColumn();
        }
        return sum;
    }

    public long boilers(int n, int k) {
        if (!isWithin(n, 0, MOST_BOILED) || !isWithin(k, 1, MOST_BOILED)) {
            return finding(BEYOND);
        }
        if (n == 0) {
            return 1;
        }
        // Which boiler begins settles all others, so ways to cut n into turns are counted once for each.
        heated[0] = 1;
        for (int i = 1; i <= n; i++) {
            heated[i] = 0;
            for (int turn = 1; turn <= k && turn <= i; turn++) {
                heated[i] += heated[i - turn];
            }
        }
        return 2 * heated[n];
    }

    // ---- draws

    public int steams(int n) {
        if (!isWithin(n, 1, MOST_STEAMS)) {
            return finding(BEYOND);
        }
        if (world.minute + n > MOST_EVER) {
            return finding(STATE);
        }
        int sum = 0;
        for (int i = 0; i < n; i++) {
            int cell = world.draw() % Cells.COUNT;
            world.steam[cell] = Math.min(MOST_STEAM, world.steam[cell] + 1);
            sum += passMinute(world.seenCells(world.sight));
        }
        return sum;
    }

    public int seed(int v) {
        int was = world.z;
        world.z = v;
        return was;
    }

    // ---- texts

    public int feed(int bytes, int n) {
        if (!isWithin(n, 1, 4)) {
            return finding(BEYOND);
        }
        if (tape.length + n > Tape.MOST) {
            return finding(FULL);
        }
        for (int i = n - 1; i >= 0; i--) {
            tape.append((bytes >>> (8 * i)) & 255);
        }
        return tape.length;
    }

    public int wipe() {
        int had = tape.length;
        tape.length = 0;
        return had;
    }

    public int text() {
        trial.become(world);
        int items = reader.read();
        if (items >= 0) {
            world.become(trial);
        }
        tape.length = 0;
        return items;
    }

    // ---- spots, sheets

    public int hold(int spot, int bather) {
        if (!isSpot(spot) || (bather != -1 && !isBather(bather))) {
            return finding(BEYOND);
        }
        world.spot[spot] = bather;
        return 1;
    }

    public int as(int spot, int kind) {
        if (!isSpot(spot) || !isKind(kind)) {
            return finding(BEYOND);
        }
        int bather = world.spot[spot];
        if (!isBather(bather)) {
            return finding(MISSING);
        }
        return Walker.isOfKind(world.kind[bather], kind) ? bather : finding(KIND);
    }

    public int sheet(int s, int bits, int n) {
        if (!isSheet(s) || (bits != 0 && bits != 8 && bits != 16 && bits != 32)) {
            return finding(BEYOND);
        }
        if (n < 0) {
            return finding(SIZE);
        }
        if (n > Sheet.MOST) {
            return finding(BEYOND);
        }
        sheets[s].begin(bits, n);
        return sheets[s].length;
    }

    public int write(int s, int i, int v) {
        if (!isSheet(s)) {
            return finding(BEYOND);
        }
        Sheet sheet = sheets[s];
        if (sheet.isMissing()) {
            return finding(MISSING);
        }
        if (!isWithin(i, 0, sheet.length - 1)) {
            return finding(BEYOND);
        }
        sheet.put(i, v);
        return 1;
    }

    public int copy(int s, int from, int t, int to, int n) {
        if (!isSheet(s) || !isSheet(t)) {
            return finding(BEYOND);
        }
        if (sheets[s].isMissing() || sheets[t].isMissing()) {
            return finding(MISSING);
        }
        if (sheets[s].bits != sheets[t].bits) {
            return finding(KIND);
        }
        if (!sheets[s].hasPart(from, n) || !sheets[t].hasPart(to, n)) {
            return finding(BEYOND);
        }
        System.arraycopy(sheets[s].numbers, from, sheets[t].numbers, to, n);
        return n;
    }

    public int load(int s) {
        if (!isSheet(s)) {
            return finding(BEYOND);
        }
        Sheet sheet = sheets[s];
        if (sheet.isMissing()) {
            return finding(MISSING);
        }
        int came = 0;
        while (came < sheet.length && isWithin(sheet.numbers[came], 0, MOST_STEAM)) {
            world.steam[came] = sheet.numbers[came];
            came++;
        }
        return came;
    }

    public int judge(int s) {
        if (!isSheet(s)) {
            return finding(BEYOND);
        }
        Sheet sheet = sheets[s];
        if (sheet.isMissing()) {
            return finding(MISSING);
        }
        long seen = world.seenCells(world.sight);
        for (int i = 0; i < sheet.length; i++) {
            int cell = sheet.numbers[i];
            if (!Cells.isCell(cell) || Cells.has(seen, cell)) {
                return 1 + i;
            }
            if (i > 0 && Cells.apart(sheet.numbers[i - 1], cell) != 1) {
                return 1 + i;
            }
        }
        return 0;
    }

    // ---- images

    public int image() {
        kept.become(world);
        isKept = true;
        return 1;
    }

    public int undo() {
        if (!isKept) {
            return finding(NONE);
        }
        world.become(kept);
        return world.minute;
    }

    public int tear() {
        int was = isKept ? 1 : 0;
        isKept = false;
        return was;
    }

    public int count(int what) {
        switch (what) {
            case 0:
                return world.minute;
            case 1:
                return world.bathers;
            case 2:
                return world.howManyOut();
            case 3:
                return world.seenEver;
            case 4:
                return world.steamOfAll();
            case 5:
                return tape.length;
            case 6:
                return world.z;
            case 7:
                return world.heldSpots();
            default:
                return finding(BEYOND);
        }
    }

    public int status(int which) {
        if (!isWithin(which, -1, FINDINGS - 1)) {
            return finding(BEYOND);
        }
        if (which >= 0) {
            return found[which];
        }
        int sum = 0;
        for (int i = 0; i < FINDINGS; i++) {
            sum += found[i];
        }
        return sum;
    }

    // ---- what the acts share

    private int finding(int which) {
        found[which]++;
        return LOW - which;
    }

    private int changeWithin(int[] numbers, int bather, int v, int most) {
        return isWithin(v, 0, most) ? replace(numbers, bather, v) : finding(BEYOND);
    }

    private int passMinute(long seen) {
        int seenNow = 0;
        for (int b = 0; b < world.bathers; b++) {
            walker.take(b);
            walker.pass(seen);
            walker.putBack(b);
            if (walker.isSeen(seen)) {
                seenNow++;
            }
        }
        world.seenEver = Math.min(MOST_EVER, world.seenEver + seenNow);
        world.minute = Math.min(MOST_EVER, world.minute + 1);
        return seenNow;
    }

    private long seenTogether(int set) {
        long seen = 0;
        for (int guard = 0; guard < GUARDS; guard++) {
            if ((set >> guard & 1) != 0) {
                seen |= byGuard[guard];
            }
        }
        return seen;
    }

    private boolean isBather(int bather) {
        return isWithin(bather, 0, world.bathers - 1);
    }

    private static int replace(int[] numbers, int i, int v) {
        int was = numbers[i];
        numbers[i] = v;
        return was;
    }

    private static boolean isWithin(int v, int least, int most) {
        return v >= least && v <= most;
    }

    private static boolean isGuard(int guard) {
        return isWithin(guard, 0, GUARDS - 1);
    }

    private static boolean isKind(int kind) {
        return isWithin(kind, 0, KINDS - 1);
    }

    private static boolean isSide(int side) {
        return isWithin(side, 0, 1);
    }

    private static boolean isSpot(int spot) {
        return isWithin(spot, 0, SPOTS - 1);
    }

    private static boolean isSheet(int s) {
        return isWithin(s, 0, SHEETS - 1);
    }

    /** Where cells lie, and sets of cells as bits. */
    private static final class Cells {

        static final int COUNT = 48;
        static final int COLUMNS = 8;
        static final int ROWS = 6;
        static final int UP = 1;
        static final int RIGHT = 2;
        static final int DOWN = 3;
        static final int LEFT = 4;
        static final long ALL = (1L << COUNT) - 1;
        static final long WEST = 0x010101010101L;
        static final long EAST = 0x808080808080L;

        static boolean isCell(int cell) {
            return cell >= 0 && cell < COUNT;
        }

        static int columnOf(int cell) {
            return cell % COLUMNS;
        }

        static int rowOf(int cell) {
            return cell / COLUMNS;
        }

        static int columnOfSide(int side) {
            return side == 0 ? 0 : COLUMNS - 1;
        }

        static long cellsOfSide(int side) {
            return side == 0 ? WEST : EAST;
        }

        static boolean has(long set, int cell) {
            return (set >>> cell & 1) != 0;
        }

        static int apart(int a, int b) {
            return Math.abs(rowOf(a) - rowOf(b)) + Math.abs(columnOf(a) - columnOf(b));
        }

        /** The cell beside another, -1 if there is none there. */
        static int beside(int cell, int direction) {
            switch (direction) {
                case UP:
                    return rowOf(cell) > 0 ? cell - COLUMNS : -1;
                case RIGHT:
                    return columnOf(cell) < COLUMNS - 1 ? cell + 1 : -1;
                case DOWN:
                    return rowOf(cell) < ROWS - 1 ? cell + COLUMNS : -1;
                case LEFT:
                    return columnOf(cell) > 0 ? cell - 1 : -1;
                default:
                    return -1;
            }
        }

        static long allBeside(long set) {
            long across = (set & ~EAST) << 1 | (set & ~WEST) >>> 1;
            return (across | set << COLUMNS | set >>> COLUMNS) & ALL;
        }
    }

    /** All that an image keeps. */
    private static final class World {

        static final int OUT_WEST = 100;
        static final int OUT_EAST = 101;

        final int[] steam;
        final int[] current;
        final int[] guardAt;
        final int[] kind;
        final int[] at;
        final int[] wish;
        final int[] wrinkles;
        final int[] key;
        final int[] spot;
        int sight;
        int bathers;
        int minute;
        int seenEver;
        int z;

        World() {
            steam = new int[Cells.COUNT];
            current = new int[Cells.COUNT];
            guardAt = new int[GUARDS];
            kind = new int[BATHERS];
            at = new int[BATHERS];
            wish = new int[BATHERS];
            wrinkles = new int[BATHERS];
            key = new int[BATHERS];
            spot = new int[SPOTS];
            for (int guard = 0; guard < GUARDS; guard++) {
                guardAt[guard] = -1;
            }
            for (int i = 0; i < SPOTS; i++) {
                spot[i] = -1;
            }
            sight = 4;
            z = 1;
        }

        void become(World from) {
            System.arraycopy(from.steam, 0, steam, 0, Cells.COUNT);
            System.arraycopy(from.current, 0, current, 0, Cells.COUNT);
            System.arraycopy(from.guardAt, 0, guardAt, 0, GUARDS);
            System.arraycopy(from.kind, 0, kind, 0, BATHERS);
            System.arraycopy(from.at, 0, at, 0, BATHERS);
            System.arraycopy(from.wish, 0, wish, 0, BATHERS);
            System.arraycopy(from.wrinkles, 0, wrinkles, 0, BATHERS);
            System.arraycopy(from.key, 0, key, 0, BATHERS);
            System.arraycopy(from.spot, 0, spot, 0, SPOTS);
            sight = from.sight;
            bathers = from.bathers;
            minute = from.minute;
            seenEver = from.seenEver;
            z = from.z;
        }

        /** A new bather's number; the caller has looked whether there is room. */
        int admit(int newKind, int cell) {
            int number = bathers;
            kind[number] = newKind;
            at[number] = cell;
            wish[number] = 0;
            wrinkles[number] = 0;
            key[number] = number;
            bathers++;
            return number;
        }

        int draw() {
            z = z * 1103515245 + 12345;
            return z >>> 8;
        }

        /** The cells that a guard sees from a cell (-1: nowhere). */
        long seenFrom(int post, int farthest) {
            long seen = 0;
            if (post < 0) {
                return seen;
            }
            for (int cell = 0; cell < Cells.COUNT; cell++) {
                if (Cells.apart(post, cell) <= farthest - steam[cell]) {
                    seen |= 1L << cell;
                }
            }
            return seen;
        }

        long seenCells(int farthest) {
            long seen = 0;
            for (int guard = 0; guard < GUARDS; guard++) {
                seen |= seenFrom(guardAt[guard], farthest);
            }
            return seen;
        }

        long seenByOthers(int than) {
            long seen = 0;
            for (int guard = 0; guard < GUARDS; guard++) {
                if (guard != than) {
                    seen |= seenFrom(guardAt[guard], sight);
                }
            }
            return seen;
        }

        int guardsWhoSee(int cell) {
            int set = 0;
            for (int guard = 0; guard < GUARDS; guard++) {
                int post = guardAt[guard];
                if (post >= 0 && Cells.apart(post, cell) <= sight - steam[cell]) {
                    set |= 1 << guard;
                }
            }
            return set;
        }

        int bestPost() {
            int best = 0;
            int most = -1;
            for (int cell = 0; cell < Cells.COUNT; cell++) {
                int cells = Long.bitCount(seenFrom(cell, sight));
                if (cells > most) {
                    best = cell;
                    most = cells;
                }
            }
            return best;
        }

        /** The steam more that hides a cell from all guards, -1 if none does. */
        int steamToHide(int cell) {
            int needed = steam[cell];
            for (int guard = 0; guard < GUARDS; guard++) {
                int post = guardAt[guard];
                if (post >= 0) {
                    needed = Math.max(needed, sight - Cells.apart(post, cell) + 1);
                }
            }
            return needed > MOST_STEAM ? -1 : needed - steam[cell];
        }

        int whoIsAt(int place) {
            int set = 0;
            for (int b = 0; b < bathers; b++) {
                if (at[b] == place) {
                    set |= 1 << b;
                }
            }
            return set;
        }

        int howManyAt(int place) {
            return Integer.bitCount(whoIsAt(place));
        }

        int howManyOut() {
            return howManyAt(OUT_WEST) + howManyAt(OUT_EAST);
        }

        int steamOfAll() {
            int sum = 0;
            for (int cell = 0; cell < Cells.COUNT; cell++) {
                sum += steam[cell];
            }
            return sum;
        }

        int heldSpots() {
            int held = 0;
            for (int i = 0; i < SPOTS; i++) {
                if (spot[i] >= 0) {
                    held++;
                }
            }
            return held;
        }

        /** A ring of keys takes one swap less than it has bathers; -1 if the keys make no rings. */
        int swapsToOrder() {
            int keys = 0;
            for (int b = 0; b < bathers; b++) {
                keys |= 1 << key[b];
            }
            if (keys != (1 << bathers) - 1) {
                return -1;
            }
            int been = 0;
            int rings = 0;
            for (int b = 0; b < bathers; b++) {
                if ((been >> b & 1) == 0) {
                    rings++;
                    been |= ringOf(b);
                }
            }
            return bathers - rings;
        }

        private int ringOf(int first) {
            int ring = 0;
            int b = first;
            for (int i = 0; i < bathers; i++) {
                ring |= 1 << b;
                b = key[b];
            }
            return ring;
        }
    }

    /** One bather taken out of the world to go on by itself: bathers don't touch one another. */
    private static final class Walker {

        static final int BATHER = 0;
        static final int SPY = 1;
        static final int FLOATER = 2;
        static final int LOVER = 3;
        static final int STAYER = 4;
        static final int CHILD = 5;
        static final int GENERAL = 6;
        private static final int[] ABOVE = {-1, BATHER, BATHER, FLOATER, LOVER, BATHER, SPY};

        private final World world;
        int kind;
        int at;
        private int wish;
        private int wrinkles;

        Walker(World world) {
            this.world = world;
        }

        static boolean isOfKind(int kind, int wanted) {
            int above = kind;
            for (int i = 0; i < KINDS && above >= 0; i++) {
                if (above == wanted) {
                    return true;
                }
                above = ABOVE[above];
            }
            return false;
        }

        void take(int bather) {
            kind = world.kind[bather];
            at = world.at[bather];
            wish = world.wish[bather];
            wrinkles = world.wrinkles[bather];
        }

        void putBack(int bather) {
            world.at[bather] = at;
            world.wrinkles[bather] = wrinkles;
        }

        boolean isIn() {
            return Cells.isCell(at);
        }

        boolean isSeen(long seen) {
            return isIn() && Cells.has(seen, at);
        }

        /** A minute of this bather. */
        void pass(long seen) {
            if (!isIn()) {
                return;
            }
            if (kind != STAYER && Cells.columnOf(at) == Cells.columnOfSide(wish)) {
                at = World.OUT_WEST + wish;
                return;
            }
            at = target(seen);
            wrinkles = Math.min(MOST_WRINKLES, wrinkles + 1);
        }

        /** The cell to which it steps; where it is, if it is out. */
        int target(long seen) {
            if (!isIn()) {
                return at;
            }
            switch (kind) {
                case SPY:
                    return spyTarget(seen);
                case GENERAL:
                    return generalTarget(seen);
                case FLOATER:
                    return floaterTarget();
                case LOVER:
                case STAYER:
                    return loverTarget();
                case CHILD:
                    return nearer(nearer(at, Cells.columnOfSide(wish)), Cells.columnOfSide(wish));
                default:
                    return nearer(at, Cells.columnOfSide(wish));
            }
        }

        private int spyTarget(long seen) {
            int target = nearer(at, Cells.columnOfSide(wish));
            return Cells.has(seen, target) ? at : target;
        }

        private int generalTarget(long seen) {
            int target = spyTarget(seen);
            if (target != at) {
                return target;
            }
            int down = Cells.beside(at, Cells.DOWN);
            return down < 0 || Cells.has(seen, down) ? at : down;
        }

        private int floaterTarget() {
            int target = Cells.beside(at, world.current[at]);
            return target < 0 ? at : target;
        }

        private int loverTarget() {
            if (world.current[at] != 0) {
                return floaterTarget();
            }
            return nearer(at, Cells.columnOf(at) < 4 ? 3 : 4);
        }

        private static int nearer(int cell, int column) {
            int own = cell % Cells.COLUMNS;
            if (own == column) {
                return cell;
            }
            return own < column ? cell + 1 : cell - 1;
        }

        /** Behind how many minutes it is out, -1 if that takes more than most. */
        int minutesTillOut(long seen, int most) {
            for (int minutes = 0; minutes <= most; minutes++) {
                if (!isIn()) {
                    return minutes;
                }
                pass(seen);
            }
            return -1;
        }

        /** Behind how many minutes it is at a cell that is seen, -1 if that takes more than most. */
        int minutesTillSeen(long seen, int most) {
            for (int minutes = 0; minutes <= most && isIn(); minutes++) {
                if (isSeen(seen)) {
                    return minutes;
                }
                pass(seen);
            }
            return -1;
        }

        boolean hasWrinkles(Sheet sheet, long seen) {
            for (int i = 0; i < sheet.length; i++) {
                if (sheet.numbers[i] != -1 && sheet.numbers[i] != wrinkles) {
                    return false;
                }
                pass(seen);
            }
            return true;
        }

        int taxedColumn() {
            return isIn() ? Cells.columnOf(at) : Cells.columnOfSide(at - World.OUT_WEST);
        }
    }

    /** Ways over cells that aren't seen, and what steam would make them so. */
    private static final class Ways {

        private static final int FAR = 1000000;

        private final World world;
        private final int[] sums;

        Ways(World world) {
            this.world = world;
            sums = new int[Cells.COUNT];
        }

        /** Steps from a cell to the column of a side over free cells, -1 if there is no way. */
        static int fewestSteps(int cell, int side, long free) {
            long edge = Cells.cellsOfSide(side) & free;
            long been = edge;
            for (int steps = 0; steps < Cells.COUNT; steps++) {
                if (Cells.has(edge, cell)) {
                    return steps;
                }
                edge = Cells.allBeside(edge) & free & ~been;
                been |= edge;
            }
            return -1;
        }

        /** The least cell beside with which a shortest way goes on, its own without a step, -1 if there is no way. */
        static int firstStep(int cell, int side, long free) {
            int steps = fewestSteps(cell, side, free);
            if (steps <= 0) {
                return steps < 0 ? -1 : cell;
            }
            for (int target = 0; target < Cells.COUNT; target++) {
                if (Cells.apart(cell, target) == 1 && fewestSteps(target, side, free) == steps - 1) {
                    return target;
                }
            }
            return -1;
        }

        /** The least sum of steam more over the cells of a way, -1 if there is none. */
        int leastSteam(int from, int side) {
            for (int cell = 0; cell < Cells.COUNT; cell++) {
                sums[cell] = FAR;
            }
            offer(from, 0);
            long done = 0;
            for (int i = 0; i < Cells.COUNT; i++) {
                int cell = nearestBut(done);
                if (cell < 0) {
                    return -1;
                }
                if (Cells.has(Cells.cellsOfSide(side), cell)) {
                    return sums[cell];
                }
                done |= 1L << cell;
                for (int direction = Cells.UP; direction <= Cells.LEFT; direction++) {
                    offer(Cells.beside(cell, direction), sums[cell]);
                }
            }
            return -1;
        }

        private void offer(int cell, int sumSoFar) {
            if (cell < 0) {
                return;
            }
            int more = world.steamToHide(cell);
            if (more >= 0) {
                sums[cell] = Math.min(sums[cell], sumSoFar + more);
            }
        }

        private int nearestBut(long done) {
            int best = -1;
            int least = FAR;
            for (int cell = 0; cell < Cells.COUNT; cell++) {
                if (sums[cell] < least && !Cells.has(done, cell)) {
                    best = cell;
                    least = sums[cell];
                }
            }
            return best;
        }

        /** The row that is hidden with the least steam more, -1 if none can be. */
        int cheapestRow() {
            int best = -1;
            int least = FAR;
            for (int row = 0; row < Cells.ROWS; row++) {
                int sum = steamToHideRow(row);
                if (sum >= 0 && sum < least) {
                    best = row;
                    least = sum;
                }
            }
            return best;
        }

        private int steamToHideRow(int row) {
            int sum = 0;
            for (int column = 0; column < Cells.COLUMNS; column++) {
                int more = world.steamToHide(row * Cells.COLUMNS + column);
                if (more < 0) {
                    return -1;
                }
                sum += more;
            }
            return sum;
        }
    }

    /** Bytes, read as tokens. */
    private static final class Tape {

        static final int MOST = 120;
        static final int END = 0;
        static final int WORD = 1;
        static final int NUMBER = 2;
        static final int SIGN = 3;
        static final int OTHER = 4;
        private static final int MOST_NUMBER = 999;

        private final int[] bytes;
        private final int[] classes;
        int length;
        int token;
        int start;
        private int stop;

        Tape() {
            bytes = new int[MOST];
            classes = new int[MOST];
        }

        /** The caller has looked whether there is room. */
        void append(int b) {
            bytes[length] = b;
            classes[length] = classOf(b);
            length++;
        }

        void rewind() {
            stop = 0;
            readToken();
        }

        void readToken() {
            start = stop;
            while (start < length && bytes[start] == ' ') {
                start++;
            }
            token = start < length ? classes[start] : END;
            stop = start < length ? start + 1 : length;
            if (token == WORD || token == NUMBER) {
                while (stop < length && classes[stop] == token) {
                    stop++;
                }
            }
        }

        private static int classOf(int b) {
            if (b >= 'a' && b <= 'z') {
                return WORD;
            }
            if (b >= '0' && b <= '9') {
                return NUMBER;
            }
            return b == ';' ? SIGN : OTHER;
        }

        boolean isWord(String word) {
            if (token != WORD || stop - start != word.length()) {
                return false;
            }
            for (int i = 0; i < word.length(); i++) {
                if (bytes[start + i] != word.charAt(i)) {
                    return false;
                }
            }
            return true;
        }

        /** The token's number; one above 999 is not read to its end, as nothing takes it. */
        int number() {
            int number = 0;
            for (int i = start; i < stop && number <= MOST_NUMBER; i++) {
                number = number * 10 + (bytes[i] - '0');
            }
            return number;
        }
    }

    /** Reads a text into a world of its own, which is thrown away if there is a fault. */
    private static final class TextReader {

        private final Tape tape;
        private final World world;
        private int number;

        TextReader(Tape tape, World world) {
            this.tape = tape;
            this.world = world;
        }

        /** How many items there are, or -1 less the fault: reading stops at the token that is at fault. */
        int read() {
            tape.rewind();
            for (int items = 1; items <= Tape.MOST; items++) {
                if (!readItem()) {
                    break;
                }
                if (tape.token == Tape.END) {
                    return items;
                }
                if (tape.token != Tape.SIGN) {
                    break;
                }
                tape.readToken();
            }
            return -1 - tape.start;
        }

        private boolean readItem() {
            int kind = kindOfWord();
            if (kind >= 0) {
                return readBather(kind);
            }
            if (takeWord("steam")) {
                return readCellRow(world.steam, MOST_STEAM);
            }
            if (takeWord("current")) {
                return readCellRow(world.current, MOST_CURRENT);
            }
            if (takeWord("guard")) {
                return readGuard();
            }
            if (takeWord("sight")) {
                return readSight();
            }
            return false;
        }

        private int kindOfWord() {
            for (int kind = 0; kind < KINDS; kind++) {
                if (tape.isWord(nameOf(kind))) {
                    return kind;
                }
            }
            return -1;
        }

        private static String nameOf(int kind) {
            switch (kind) {
                case Walker.SPY:
                    return "spy";
                case Walker.FLOATER:
                    return "floater";
                case Walker.LOVER:
                    return "lover";
                case Walker.STAYER:
                    return "stayer";
                case Walker.CHILD:
                    return "child";
                case Walker.GENERAL:
                    return "general";
                default:
                    return "bather";
            }
        }

        private boolean readBather(int kind) {
            if (world.bathers >= BATHERS) {
                return false;
            }
            tape.readToken();
            int bather = world.admit(kind, 0);
            return readMaybe("at", world.at, bather, Cells.COUNT - 1)
                && readMaybe("wish", world.wish, bather, 1)
                && readMaybe("wrinkles", world.wrinkles, bather, MOST_WRINKLES);
        }

        private boolean readCellRow(int[] numbers, int most) {
            if (!takeNumber(Cells.COUNT - 1)) {
                return false;
            }
            int cell = number;
            if (!takeNumber(most)) {
                return false;
            }
            numbers[cell] = number;
            return true;
        }

        private boolean readGuard() {
            if (!takeNumber(GUARDS - 1)) {
                return false;
            }
            int guard = number;
            world.guardAt[guard] = -1;
            return readMaybe("at", world.guardAt, guard, Cells.COUNT - 1);
        }

        private boolean readSight() {
            if (!takeNumber(MOST_SIGHT)) {
                return false;
            }
            world.sight = number;
            return true;
        }

        /** Without the word all stays as it is; false only if the word has no number behind it. */
        private boolean readMaybe(String word, int[] numbers, int i, int most) {
            if (!takeWord(word)) {
                return true;
            }
            if (!takeNumber(most)) {
                return false;
            }
            numbers[i] = number;
            return true;
        }

        private boolean takeWord(String word) {
            if (!tape.isWord(word)) {
                return false;
            }
            tape.readToken();
            return true;
        }

        private boolean takeNumber(int most) {
            if (tape.token != Tape.NUMBER || tape.number() > most) {
                return false;
            }
            number = tape.number();
            tape.readToken();
            return true;
        }
    }

    /** A row of numbers of so many bits; of 0 bits it is missing. */
    private static final class Sheet {

        static final int MOST = 40;

        final int[] numbers;
        int bits;
        int length;

        Sheet() {
            numbers = new int[MOST];
        }

        boolean isMissing() {
            return bits == 0;
        }

        void begin(int newBits, int n) {
            bits = newBits;
            length = newBits == 0 ? 0 : n;
            for (int i = 0; i < length; i++) {
                numbers[i] = 0;
            }
        }

        void put(int i, int v) {
            if (bits == 8) {
                numbers[i] = (byte) v;
            } else if (bits == 16) {
                numbers[i] = (short) v;
            } else {
                numbers[i] = v;
            }
        }

        /** Whether it has n numbers from one on; the test is one of differences, as a sum might wrap. */
        boolean hasPart(int from, int n) {
            return from >= 0 && n >= 0 && from <= length && n <= length - from;
        }
    }
}
