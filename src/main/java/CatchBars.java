/**
 * Two swings, a gap, a net and those who fly: who lets go when, and comes to hands or falls.
 * Words in capitals are those of the document. All rows are made in constructors and used again,
 * because whatever a run of calls makes stays until the run's end.
 */
public final class CatchBars {
    private static final int LOW = -1000000000;
    private static final int BEYOND = 1;
    private static final int NONE = 2;
    private static final int STATE = 3;
    private static final int FULL = 4;
    private static final int KIND = 5;

    private static final int MOST_FLYERS = 6;
    private static final int KINDS = 7;
    private static final int FIGURES = 10;
    private static final int MOST_PERIOD = 40;
    private static final int LEAST_PERIOD = 4;
    private static final int MOST_WIDTH = 60;
    private static final int LEAST_NET = -99;
    private static final int MOST_NET = 299;
    private static final int MOST_TICK = 9999;
    private static final int MOST_SPAN = 60;
    private static final int MOST_PUMPS = 59;
    private static final int MOST_LAG = 9;
    private static final int MOST_GOES = 99;
    private static final int MOST_COUNTED = 9999;
    private static final int MOST_HURT = 99999;
    private static final int EVENING = 12;
    private static final int TAPE_ROOM = 50;
    private static final int MOST_OPEN = 5;
    private static final int FLIGHT = 0;
    private static final int AIR = 1;
    private static final int SHEETS = 4;
    private static final int MOST_NUMBERS = 40;
    private static final int MOST_WAITING = 20;
    private static final int TRACE_ROOM = 40;
    private static final int CASES = 9;

    private final World world = new World();
    private final World kept = new World();
    private final Thinker thinker = new Thinker(world);
    private final Reader reader = new Reader(world);
    private final Voices voices = new Voices();
    private final Sheet[] sheets = new Sheet[SHEETS];
    private final int[] errors = new int[KIND + 1];
    private int images;

    public CatchBars() {
        for (int i = 0; i < SHEETS; i++) {
            sheets[i] = new Sheet();
        }
    }

    // ---- swings, flyers

    public int swing(int swing, int what, int v) {
        Swing s = world.swingOf(swing);
        if (s == null || !s.takes(what, v)) {
            return error(BEYOND);
        }
        return s.change(what, v);
    }

    public int bar(int swing, int tick) {
        Swing s = world.swingOf(swing);
        if (s == null || !within(tick, 0, 19999)) {
            return error(BEYOND);
        }
        return s.placeAt(tick);
    }

    public int set(int what, int v) {
        int old;
        if (what == 0 && within(v, 0, 200)) {
            old = world.gap;
            world.gap = v;
        } else if (what == 1 && within(v, 0, 30)) {
            old = world.reach;
            world.reach = v;
        } else if (what == 2 && within(v, LEAST_NET, MOST_NET)) {
            old = world.net;
            world.net = v;
        } else {
            return error(BEYOND);
        }
        return old;
    }

    public int flyer(int km) {
        if (!isKindAndNumber(km)) {
            return error(BEYOND);
        }
        if (world.flyerCount >= MOST_FLYERS) {
            return error(FULL);
        }
        world.flyerCount++;
        Flyer f = world.flyerOf(world.flyerCount - 1);
        if (f != null) {
            f.begin(km);
        }
        return world.flyerCount - 1;
    }

    public int ofFlyer(int flyer, int what) {
        Flyer f = world.flyerOf(flyer);
        if (f == null || !within(what, 0, 6)) {
            return error(BEYOND);
        }
        switch (what) {
            case 0:
                return f.kind;
            case 1:
                return f.m;
            case 2:
                return f.turnCount;
            case 3:
                return f.goes;
            case 4:
                return f.lag();
            case 5:
                return f.holds(world.reach);
            default:
                return f.harm(10);
        }
    }

    public int become(int flyer, int km) {
        Flyer f = world.flyerOf(flyer);
        if (f == null || !isKindAndNumber(km)) {
            return error(BEYOND);
        }
        int old = f.kind;
        f.take(km);
        return old;
    }

    public int as(int flyer, int kind) {
        Flyer f = world.flyerOf(flyer);
        if (f == null || !within(kind, 0, KINDS - 1)) {
            return error(BEYOND);
        }
        if (!f.isOf(kind)) {
            return error(KIND);
        }
        return f.m;
    }

    public int turn(int flyer, int k) {
        Flyer f = world.flyerOf(flyer);
        if (f == null || !within(k, 1, 3)) {
            return error(BEYOND);
        }
        int old = f.turnCount;
        f.turnCount = k;
        return old;
    }

    // ---- texts

    public int feed(long word, int n) {
        if (!within(n, 1, 8)) {
            return error(BEYOND);
        }
        if (world.tapeLength > TAPE_ROOM - n) {
            return error(FULL);
        }
        for (int i = 0; i < n; i++) {
            world.addByte((int) (word >>> (8 * i)) & 255);
        }
        return world.tapeLength;
    }

    public int text(int use) {
        Law law = world.lawOf(use);
        if (law == null) {
            return error(BEYOND);
        }
        int fault = reader.readTape();
        world.tapeLength = 0;
        if (fault >= 0) {
            return -10 - fault;
        }
        law.take(reader.steps, reader.count);
        return 1;
    }

    public int law(int use, int a, int b, int c) {
        Law law = world.lawOf(use);
        if (law == null) {
            return error(BEYOND);
        }
        return law.gives(a, b, c);
    }

    // ---- goes

    public int go(int flyer) {
        Flyer f = world.flyerOf(flyer);
        if (f == null) {
            return error(BEYOND);
        }
        return goToldAt(f, world.tick);
    }

    public int ticks(int n) {
        if (!within(n, 1, 200)) {
            return error(BEYOND);
        }
        if (world.tick + n > MOST_TICK) {
            return error(STATE);
        }
        world.tick += n;
        return world.tick;
    }

    public int evenings(int n) {
        if (!within(n, 1, 40)) {
            return error(BEYOND);
        }
        if (world.tick + n * EVENING > MOST_TICK) {
            return error(STATE);
        }
        for (int i = 0; i < n; i++) {
            oneEvening();
        }
        return world.catches;
    }

    public int rest() {
        int sum = 0;
        for (int i = 0; i < world.flyerCount; i++) {
            Flyer f = world.flyerOf(i);
            if (f != null) {
                sum += f.goes;
                f.goes = 0;
            }
        }
        return sum;
    }

    // ---- what would be

    public int then(int flyer, int n, int what) {
        Flyer f = world.flyerOf(flyer);
        if (f == null || !within(n, 0, MOST_SPAN) || !within(what, 0, 4)) {
            return error(BEYOND);
        }
        thinker.start(f);
        boolean caught = thinker.isCaught(world.tick + n);
        switch (what) {
            case 0:
                return thinker.off(0);
            case 1:
                return caught ? 1 : 0;
            case 2:
                return thinker.comes;
            case 3:
                return thinker.place;
            default:
                return f.harm(Math.abs(thinker.place - world.net));
        }
    }

    public int can(int flyer, int n, int what) {
        Flyer f = world.flyerOf(flyer);
        if (f == null || !isSpan(n) || !within(what, 0, 1)) {
            return error(BEYOND);
        }
        thinker.start(f);
        if (what == 0) {
            return thinker.howManyCaught(n);
        }
        return orNone(thinker.firstCaught(n));
    }

    public int surest(int flyer, int n) {
        Flyer f = world.flyerOf(flyer);
        if (f == null || !isSpan(n)) {
            return error(BEYOND);
        }
        thinker.start(f);
        return thinker.surestWait(n);
    }

    public int odds(int flyer, int n, int part) {
        Flyer f = world.flyerOf(flyer);
        if (f == null || !within(n, 0, MOST_SPAN) || !within(part, 0, 1)) {
            return error(BEYOND);
        }
        thinker.start(f);
        return partOf(thinker.casesCaught(world.tick + n), CASES, part);
    }

    public int pumped(int flyer, int n) {
        Flyer f = world.flyerOf(flyer);
        if (f == null || !isSpan(n)) {
            return error(BEYOND);
        }
        thinker.start(f);
        return orNone(thinker.leastPumps(n));
    }

    public int inStep(int flyer, int n) {
        Flyer f = world.flyerOf(flyer);
        if (f == null || !isSpan(n)) {
            return error(BEYOND);
        }
        thinker.start(f);
        return orNone(thinker.leastSteps(n));
    }

    public int mend(int flyer, int n, int a, int b) {
        Flyer f = world.flyerOf(flyer);
        if (f == null || !within(n, 0, MOST_SPAN) || !within(a, 0, 9) || !within(b, 0, 9)) {
            return error(BEYOND);
        }
        thinker.start(f);
        thinker.fly(world.tick + n, 0);
        int off = thinker.off(0);
        return off - off * a / 10 - off * b / 10;
    }

    public long again(int flyer, int n, int g, int h, int part) {
        Flyer f = world.flyerOf(flyer);
        boolean fits = isSpan(n) && within(g, 0, 99) && within(h, 0, 99) && within(part, 0, 1);
        if (f == null || !fits) {
            return error(BEYOND);
        }
        thinker.start(f);
        int caught = thinker.casesCaught(world.tick + thinker.surestWait(n));
        int missed = CASES - caught;
        // Ninths: what one more go is worth; who would lose by it bows, which is worth nothing.
        int once = caught * g - missed * h;
        int both = CASES * caught * g + missed * (Math.max(0, once) - CASES * h);
        return partOf(both, CASES * CASES, part);
    }

    public int net(int flyer, int n, int what) {
        Flyer f = world.flyerOf(flyer);
        if (f == null || !isSpan(n) || !within(what, 0, 1)) {
            return error(BEYOND);
        }
        thinker.start(f);
        if (thinker.gatherFalls(n) == 0) {
            return error(NONE);
        }
        int place = thinker.leastHarmPlace();
        return what == 0 ? place : thinker.harmTogether(place);
    }

    public int phases(int flyer, int sheet, int what) {
        Flyer f = world.flyerOf(flyer);
        Sheet s = sheetOf(sheet);
        if (f == null || s == null || !within(what, 0, 1)) {
            return error(BEYOND);
        }
        if (s.isMissing()) {
            return error(NONE);
        }
        thinker.start(f);
        int first = thinker.firstPhase(s, 0);
        return what == 0 || first < 0 ? orNone(first) : thinker.howManyPhases(s);
    }

    public int late(int flyer, int sheet) {
        Flyer f = world.flyerOf(flyer);
        Sheet s = sheetOf(sheet);
        if (f == null || s == null) {
            return error(BEYOND);
        }
        if (s.isMissing()) {
            return error(NONE);
        }
        thinker.start(f);
        return orNone(thinker.leastLag(s));
    }

    // ---- draws, voices, sheets, images, what is told

    public int seed(int v) {
        int old = world.z;
        world.z = v;
        return old;
    }

    public int voice(int flyer, int act, int x) {
        Flyer f = world.flyerOf(flyer);
        if (f == null || !within(act, 0, 3)) {
            return error(BEYOND);
        }
        return voices.speak(flyer, f, act, x);
    }

    public int trace(int i) {
        if (!within(i, 0, voices.traced - 1)) {
            return error(NONE);
        }
        return voices.bodyAt(i);
    }

    public int sheet(int sheet, int bits, int n) {
        Sheet s = sheetOf(sheet);
        if (s == null || (bits != 0 && bits != 8 && bits != 16 && bits != 32)) {
            return error(BEYOND);
        }
        if (bits != 0 && n < 0) {
            return error(STATE);
        }
        if (bits != 0 && n > MOST_NUMBERS) {
            return error(BEYOND);
        }
        s.begin(bits, n);
        return 1;
    }

    public int put(int sheet, int i, int v) {
        Sheet s = sheetOf(sheet);
        if (s == null) {
            return error(BEYOND);
        }
        if (s.isMissing()) {
            return error(NONE);
        }
        if (!within(i, 0, s.length - 1)) {
            return error(BEYOND);
        }
        s.write(i, v);
        return 1;
    }

    public int move(int sheet, int i, int other, int j, int n) {
        Sheet from = sheetOf(sheet);
        Sheet to = sheetOf(other);
        if (from == null || to == null) {
            return error(BEYOND);
        }
        if (from.isMissing() || to.isMissing()) {
            return error(NONE);
        }
        if (from.bits != to.bits) {
            return error(KIND);
        }
        if (!from.hasRow(i, n) || !to.hasRow(j, n)) {
            return error(BEYOND);
        }
        System.arraycopy(from.numbers, i, to.numbers, j, n);
        return n;
    }

    public int turns(int sheet) {
        Sheet s = sheetOf(sheet);
        if (s == null) {
            return error(BEYOND);
        }
        if (s.isMissing()) {
            return error(NONE);
        }
        for (int i = 0; i < s.length; i++) {
            Flyer f = world.flyerOf(i);
            if (f == null || !within(s.read(i), 1, 3)) {
                return i;
            }
            f.turnCount = s.read(i);
        }
        return s.length;
    }

    public int judge(int sheet) {
        Sheet s = sheetOf(sheet);
        if (s == null) {
            return error(BEYOND);
        }
        if (s.isMissing()) {
            return error(NONE);
        }
        for (int i = 0; i < s.length; i++) {
            Flyer f = world.flyerOf(i);
            if (f == null || s.read(i) != f.goes) {
                return i;
            }
        }
        return s.length < world.flyerCount ? s.length : -1;
    }

    public int image() {
        kept.copy(world);
        images++;
        return images;
    }

    public int restore() {
        if (images == 0) {
            return error(NONE);
        }
        world.copy(kept);
        return world.tick;
    }

    public int tell(int v) {
        if (world.waitingCount >= MOST_WAITING) {
            return error(FULL);
        }
        world.addWaiting(v);
        return world.waitingCount;
    }

    public int check() {
        int all = world.waitingCount;
        world.waitingCount = 0;
        for (int i = 0; i < all && i < MOST_WAITING; i++) {
            if (world.waiting[i] != world.near.placeAt(world.tick + i)) {
                return 1 + i;
            }
        }
        return 0;
    }

    public int count(int what) {
        switch (what) {
            case 0:
                return world.flyerCount;
            case 1:
                return world.tick;
            case 2:
                return world.catches;
            case 3:
                return world.falls;
            case 4:
                return world.hurt;
            case 5:
                return world.gap;
            case 6:
                return world.reach;
            case 7:
                return world.net;
            case 8:
                return world.tapeLength;
            case 9:
                return world.waitingCount;
            case 10:
                return voices.traced;
            case 11:
                return world.z;
            default:
                return error(BEYOND);
        }
    }

    public int told(int k) {
        if (!within(k, BEYOND, KIND)) {
            return error(BEYOND);
        }
        return errors[k];
    }

    /** Counted where it arises, because some answers that are no ERROR may look like one. */
    private int error(int k) {
        if (within(k, BEYOND, KIND)) {
            errors[k]++;
        }
        return LOW - k;
    }

    private int orNone(int found) {
        return found < 0 ? error(NONE) : found;
    }

    private Sheet sheetOf(int sheet) {
        return within(sheet, 0, SHEETS - 1) ? sheets[sheet] : null;
    }

    private int goToldAt(Flyer f, int told) {
        thinker.start(f);
        boolean caught = thinker.isCaught(told);
        int harm = f.harm(Math.abs(thinker.place - world.net));
        f.goes = Math.min(MOST_GOES, f.goes + 1);
        if (caught) {
            world.catches = Math.min(MOST_COUNTED, world.catches + 1);
            return 0;
        }
        world.falls = Math.min(MOST_COUNTED, world.falls + 1);
        world.hurt = Math.min(MOST_HURT, world.hurt + harm);
        return 1 + harm;
    }

    private void oneEvening() {
        for (int i = 0; i < world.flyerCount; i++) {
            int wait = world.draw() % EVENING;
            Flyer f = world.flyerOf(i);
            if (f != null) {
                goToldAt(f, world.tick + wait);
            }
        }
        world.tick += EVENING;
    }

    private static boolean within(int v, int low, int high) {
        return v >= low && v <= high;
    }

    private static boolean isSpan(int n) {
        return within(n, 1, MOST_SPAN);
    }

    private static boolean isKindAndNumber(int km) {
        return within(km, 0, KINDS * FIGURES - 1);
    }

    /** Above (part 0) or below (part 1) the line, in lowest terms; the sign stands above. */
    private static int partOf(int above, int below, int part) {
        int a = Math.abs(above);
        int b = below;
        for (int i = 0; i < below && b != 0; i++) {
            int left = a % b;
            a = b;
            b = left;
        }
        int common = Math.max(1, a);
        return part == 0 ? above / common : below / common;
    }

    /** One of the two SWINGS. */
    private static final class Swing {
        private int period = 12;
        private int width = 20;
        private int phase;

        boolean takes(int what, int v) {
            switch (what) {
                case 0:
                    return within(v, LEAST_PERIOD, MOST_PERIOD);
                case 1:
                    return within(v, 1, MOST_WIDTH);
                case 2:
                    return within(v, 0, period - 1);
                default:
                    return false;
            }
        }

        int change(int what, int v) {
            int old = phase;
            if (what == 0) {
                old = period;
                period = Math.max(LEAST_PERIOD, v);
                phase = phase % Math.max(LEAST_PERIOD, v);
            } else if (what == 1) {
                old = width;
                width = v;
            } else {
                phase = v;
            }
            return old;
        }

        int placeAt(int tick) {
            if (period < LEAST_PERIOD) {
                return 0;
            }
            int r = Math.floorMod(tick + phase, period);
            int d = Math.abs(2 * r - period);
            return 2 * width * d / period - width;
        }

        void copy(Swing from) {
            period = from.period;
            width = from.width;
            phase = from.phase;
        }
    }

    /** One who flies; what one can do is told by the KIND or the next KIND above that tells it. */
    private static final class Flyer {
        private static final int TIMED = 1;
        private static final int CALLED = 2;
        private static final int TIRED = 3;
        private static final int CORRECTED = 4;
        private static final int HUP = 5;
        private static final int NETTED = 6;

        private int kind;
        private int m;
        private int turnCount;
        private int goes;

        /** As a new one: an object of a row is used again, so nothing of the one ahead may stay. */
        void begin(int km) {
            take(km);
            turnCount = 1;
            goes = 0;
        }

        void take(int km) {
            kind = km / FIGURES;
            m = km % FIGURES;
        }

        boolean isOf(int wanted) {
            int at = kind;
            for (int i = 0; i < KINDS && at != wanted && at > 0; i++) {
                at = kindAbove(at);
            }
            return at == wanted;
        }

        static int kindAbove(int kind) {
            switch (kind) {
                case TIMED:
                case CALLED:
                case TIRED:
                    return 0;
                case CORRECTED:
                    return TIMED;
                case HUP:
                    return CALLED;
                case NETTED:
                    return TIRED;
                default:
                    return -1;
            }
        }

        int lag() {
            switch (kind) {
                case CALLED:
                    return 1 + m % 3;
                case HUP:
                    return m % 3;
                case TIRED:
                case NETTED:
                    return goes > m ? 1 : 0;
                default:
                    return 0;
            }
        }

        int holds(int reach) {
            switch (kind) {
                case TIMED:
                    return reach + 1;
                case CORRECTED:
                    return reach + 1 + m;
                case TIRED:
                case NETTED:
                    return Math.max(0, reach - goes / 3);
                default:
                    return reach;
            }
        }

        int harm(int far) {
            switch (kind) {
                case TIRED:
                    return far + goes;
                case NETTED:
                    return (far + goes) / 2;
                default:
                    return far;
            }
        }

        void copy(Flyer from) {
            kind = from.kind;
            m = from.m;
            turnCount = from.turnCount;
            goes = from.goes;
        }
    }

    /**
     * What a USE gives: its TEXT as steps over a stack, or without steps the law that stands at
     * first. A step is a number, or below 0 the sign or the name of one byte.
     */
    private static final class Law {
        private static final int NOT = -'!';
        private static final int TURNS = -'k';
        private static final int SPEED = -'v';
        private static final int NUMBER = -'m';

        private final boolean isFlight;
        private final int least;
        private final int most;
        private final int[] steps = new int[TAPE_ROOM];
        private final int[] stack = new int[TAPE_ROOM];
        private int count;

        Law(int use) {
            isFlight = use == FLIGHT;
            least = isFlight ? 1 : -99;
            most = isFlight ? 30 : 99;
        }

        void take(int[] from, int n) {
            count = Math.min(n, Math.min(from.length, TAPE_ROOM));
            for (int i = 0; i < count; i++) {
                steps[i] = from[i];
            }
        }

        int gives(int k, int v, int m) {
            int top = 0;
            for (int i = 0; i < count && i < TAPE_ROOM; i++) {
                int step = steps[i];
                if (isPart(step) && top < TAPE_ROOM) {
                    stack[top] = step >= 0 ? step : step == TURNS ? k : step == SPEED ? v : m;
                    top++;
                } else if (step == NOT && top >= 1) {
                    stack[top - 1] = stack[top - 1] == 0 ? 1 : 0;
                } else if (top >= 2) {
                    stack[top - 2] = joined(stack[top - 2], -step, stack[top - 1]);
                    top--;
                }
            }
            int worth = top >= 1 ? stack[0] : isFlight ? 3 + k * 2 : v * 3 + 30 - k * 2;
            return Math.max(least, Math.min(most, worth));
        }

        private static boolean isPart(int step) {
            return step >= 0 || step == TURNS || step == SPEED || step == NUMBER;
        }

        private static int joined(int a, int sign, int b) {
            switch (sign) {
                case '|':
                    return a != 0 || b != 0 ? 1 : 0;
                case '&':
                    return a != 0 && b != 0 ? 1 : 0;
                case '<':
                    return a < b ? 1 : 0;
                case '=':
                    return a == b ? 1 : 0;
                case '>':
                    return a > b ? 1 : 0;
                case '+':
                    return a + b;
                case '-':
                    return a - b;
                case '*':
                    return a * b;
                case '/':
                    return b == 0 ? 0 : a / b;
                default:
                    return b == 0 ? 0 : a % b;
            }
        }

        void copy(Law from) {
            take(from.steps, from.count);
        }
    }

    /** Reads THE TAPE; a byte is passed only when a TEXT goes on with it, so a FAULT is where it stands. */
    private static final class Reader {
        private static final int COMPARED = 2;
        private static final int PRODUCT = 4;
        private static final int END = -1;

        private final World world;
        private final int[] steps = new int[TAPE_ROOM];
        private int count;
        private int at;
        private boolean wrong;

        Reader(World world) {
            this.world = world;
        }

        /** The FAULT, or -1 for a TEXT, whose steps stand ready then. */
        int readTape() {
            count = 0;
            at = 0;
            wrong = false;
            readLevel(0, 0);
            return wrong || next() != END ? at : -1;
        }

        private int next() {
            return at >= 0 && at < TAPE_ROOM && at < world.tapeLength ? world.tape[at] : END;
        }

        private void addStep(int step) {
            if (count >= 0 && count < TAPE_ROOM) {
                steps[count] = step;
                count++;
            }
        }

        /** T, A, B, S, P as levels 0 to 4, which differ in their signs and in how often these may stand. */
        private void readLevel(int level, int open) {
            if (level > PRODUCT || open > MOST_OPEN) {
                readPart(open);
                return;
            }
            readLevel(level + 1, open);
            int most = level == COMPARED ? 1 : TAPE_ROOM;
            for (int i = 0; i < most && !wrong && levelOf(next()) == level; i++) {
                int sign = next();
                at++;
                readLevel(level + 1, open);
                addStep(-sign);
            }
        }

        private static int levelOf(int sign) {
            switch (sign) {
                case '|':
                    return 0;
                case '&':
                    return 1;
                case '<':
                case '=':
                case '>':
                    return COMPARED;
                case '+':
                case '-':
                    return 3;
                case '*':
                case '/':
                case '%':
                    return PRODUCT;
                default:
                    return END;
            }
        }

        /** Q, with so many ! and ( open around it. */
        private void readPart(int open) {
            int sign = next();
            if (isDigit(sign)) {
                readNumber();
            } else if (sign == 'k' || sign == 'v' || sign == 'm') {
                at++;
                addStep(-sign);
            } else if (sign == '!' && open < MOST_OPEN) {
                at++;
                readPart(open + 1);
                addStep(-sign);
            } else if (sign == '(' && open < MOST_OPEN) {
                at++;
                readLevel(0, open + 1);
                wrong = wrong || next() != ')';
                at += wrong ? 0 : 1;
            } else {
                wrong = true;
            }
        }

        private void readNumber() {
            int number = 0;
            for (int i = 0; i < 4 && isDigit(next()); i++) {
                number = number * 10 + next() - '0';
                at++;
            }
            addStep(number);
        }

        private static boolean isDigit(int sign) {
            return sign >= '0' && sign <= '9';
        }
    }

    /** All that an IMAGE keeps. */
    private static final class World {
        private final Swing near = new Swing();
        private final Swing far = new Swing();
        private int gap = 60;
        private int reach = 5;
        private int net = 30;
        private int tick;
        private final Flyer[] flyers = new Flyer[MOST_FLYERS];
        private int flyerCount;
        private final int[] tape = new int[TAPE_ROOM];
        private int tapeLength;
        private final Law flight = new Law(FLIGHT);
        private final Law air = new Law(AIR);
        private int catches;
        private int falls;
        private int hurt;
        private int z = 1;
        private final int[] waiting = new int[MOST_WAITING];
        private int waitingCount;

        World() {
            for (int i = 0; i < MOST_FLYERS; i++) {
                flyers[i] = new Flyer();
            }
        }

        Swing swingOf(int swing) {
            return swing == 0 ? near : swing == 1 ? far : null;
        }

        Law lawOf(int use) {
            return use == FLIGHT ? flight : use == AIR ? air : null;
        }

        Flyer flyerOf(int i) {
            return i >= 0 && i < flyerCount && i < MOST_FLYERS ? flyers[i] : null;
        }

        void addByte(int b) {
            if (tapeLength >= 0 && tapeLength < TAPE_ROOM) {
                tape[tapeLength] = b;
                tapeLength++;
            }
        }

        void addWaiting(int v) {
            if (waitingCount >= 0 && waitingCount < MOST_WAITING) {
                waiting[waitingCount] = v;
                waitingCount++;
            }
        }

        int draw() {
            z = z * 1103515245 + 12345;
            return z >>> 8;
        }

        void copy(World from) {
            near.copy(from.near);
            far.copy(from.far);
            gap = from.gap;
            reach = from.reach;
            net = from.net;
            tick = from.tick;
            flyerCount = from.flyerCount;
            for (int i = 0; i < MOST_FLYERS; i++) {
                Flyer to = flyers[i];
                Flyer like = from.flyers[i];
                if (to != null && like != null) {
                    to.copy(like);
                }
            }
            System.arraycopy(from.tape, 0, tape, 0, TAPE_ROOM);
            tapeLength = from.tapeLength;
            flight.copy(from.flight);
            air.copy(from.air);
            catches = from.catches;
            falls = from.falls;
            hurt = from.hurt;
            z = from.z;
            System.arraycopy(from.waiting, 0, waiting, 0, MOST_WAITING);
            waitingCount = from.waitingCount;
        }
    }

    /** Flies in thought: with SWINGS, FLYER and LAG of its own, so that trying others changes nothing. */
    private static final class Thinker {
        private final World world;
        private final Swing near = new Swing();
        private final Swing far = new Swing();
        private final Flyer flyer = new Flyer();
        private final int[] fallPlaces = new int[MOST_SPAN];
        private int fallCount;
        private int lag;
        private int comes;
        private int place;

        Thinker(World world) {
            this.world = world;
        }

        void start(Flyer of) {
            near.copy(world.near);
            far.copy(world.far);
            flyer.copy(of);
            lag = flyer.lag();
        }

        /** A GO told at a TICK, that lets go so many TICKS later than it should: when and where it comes. */
        void fly(int told, int slip) {
            int from = told + lag + slip;
            int p = near.placeAt(from);
            int v = p - near.placeAt(from - 1);
            comes = from + world.flight.gives(flyer.turnCount, v, flyer.m);
            place = p + world.air.gives(flyer.turnCount, v, flyer.m);
        }

        /** OFF of the latest fly(), with THE CATCHER so many TICKS ahead of himself. */
        int off(int ahead) {
            return place - (world.gap - far.placeAt(comes + ahead));
        }

        private boolean isHeld(int off) {
            return Math.abs(off) <= flyer.holds(world.reach);
        }

        boolean isCaught(int told) {
            fly(told, 0);
            return isHeld(off(0));
        }

        int howManyCaught(int n) {
            int many = 0;
            for (int i = 0; i < n; i++) {
                many += isCaught(world.tick + i) ? 1 : 0;
            }
            return many;
        }

        /** From now, or -1. */
        int firstCaught(int n) {
            for (int i = 0; i < n; i++) {
                if (isCaught(world.tick + i)) {
                    return i;
                }
            }
            return -1;
        }

        int casesCaught(int told) {
            int many = 0;
            for (int slip = -1; slip <= 1; slip++) {
                fly(told, slip);
                for (int ahead = -1; ahead <= 1; ahead++) {
                    many += isHeld(off(ahead)) ? 1 : 0;
                }
            }
            return many;
        }

        int surestWait(int n) {
            int surest = 0;
            int most = -1;
            for (int i = 0; i < n; i++) {
                int many = casesCaught(world.tick + i);
                if (many > most) {
                    most = many;
                    surest = i;
                }
            }
            return surest;
        }

        int leastPumps(int n) {
            int width = near.width;
            // Beyond the most WIDTH a PUMP changes nothing, so none beyond it can be the least.
            for (int pumps = 0; pumps <= MOST_PUMPS && width + pumps <= MOST_WIDTH; pumps++) {
                near.width = width + pumps;
                if (firstCaught(n) >= 0) {
                    return pumps;
                }
            }
            return -1;
        }

        int leastSteps(int n) {
            int phase = far.phase;
            for (int steps = 0; steps < MOST_PERIOD && far.period > 0; steps++) {
                far.phase = (phase + steps) % far.period;
                if (firstCaught(n) >= 0) {
                    return steps;
                }
            }
            return -1;
        }

        int gatherFalls(int n) {
            fallCount = 0;
            for (int i = 0; i < n && fallCount >= 0 && fallCount < MOST_SPAN; i++) {
                if (!isCaught(world.tick + i)) {
                    fallPlaces[fallCount] = place;
                    fallCount++;
                }
            }
            return fallCount;
        }

        int harmTogether(int net) {
            int sum = 0;
            for (int i = 0; i < fallCount && i < MOST_SPAN; i++) {
                sum += flyer.harm(Math.abs(fallPlaces[i] - net));
            }
            return sum;
        }

        int leastHarmPlace() {
            int best = LEAST_NET;
            int least = harmTogether(best);
            for (int net = LEAST_NET + 1; net <= MOST_NET; net++) {
                int sum = harmTogether(net);
                if (sum < least) {
                    least = sum;
                    best = net;
                }
            }
            return best;
        }

        private boolean isAsTold(Sheet offs) {
            for (int i = 0; i < offs.length; i++) {
                fly(world.tick + i, 0);
                if (off(0) != offs.read(i)) {
                    return false;
                }
            }
            return true;
        }

        /** The first PHASE from one on with which it is as told, or -1. */
        int firstPhase(Sheet offs, int from) {
            for (int phase = from; phase < far.period; phase++) {
                far.phase = phase;
                if (isAsTold(offs)) {
                    return phase;
                }
            }
            return -1;
        }

        int howManyPhases(Sheet offs) {
            int many = 0;
            int phase = firstPhase(offs, 0);
            for (int i = 0; i < MOST_PERIOD && phase >= 0; i++) {
                many++;
                phase = firstPhase(offs, phase + 1);
            }
            return many;
        }

        int leastLag(Sheet offs) {
            for (int tried = 0; tried <= MOST_LAG; tried++) {
                lag = tried;
                if (isAsTold(offs)) {
                    return tried;
                }
            }
            return -1;
        }
    }

    /** The BODIES, and THE TRACE of those of the latest voice(). */
    private static final class Voices {
        private static final int SWINGS = 0;
        private static final int FLIES = 1;
        private static final int FALLS = 2;
        private static final int TELLS = 3;
        private static final int DEEPEST = 40;
        /** Seven KINDS a row, a row an act; 0 where a KIND has no BODY. */
        private static final int[] BODIES = {
            10, 20, 0, 0, 0, 0, 0,
            11, 0, 30, 0, 0, 60, 0,
            12, 0, 0, 40, 0, 0, 70,
            13, 0, 0, 0, 50, 0, 71,
        };

        private final int[] trace = new int[TRACE_ROOM];
        private int traced;
        private int number;
        private final Flyer flyer = new Flyer();

        int speak(int of, Flyer who, int act, int x) {
            traced = 0;
            number = of;
            flyer.copy(who);
            return say(act, flyer.kind, x, 0);
        }

        int bodyAt(int i) {
            return i >= 0 && i < traced && i < TRACE_ROOM ? trace[i] : 0;
        }

        /** The BODY of a KIND for an act, or of the next KIND above that has one. */
        private static int bodyFor(int act, int kind) {
            int at = kind;
            for (int i = 0; i < KINDS && at >= 0; i++) {
                int place = act * KINDS + at;
                if (place >= 0 && place < BODIES.length && BODIES[place] != 0) {
                    return BODIES[place];
                }
                at = Flyer.kindAbove(at);
            }
            return 0;
        }

        private void note(int body) {
            if (traced >= 0 && traced < TRACE_ROOM) {
                trace[traced] = body;
                traced++;
            }
        }

        private int own(int act, int x, int depth) {
            return say(act, flyer.kind, x, depth);
        }

        private int say(int act, int kind, int x, int depth) {
            if (depth > DEEPEST) {
                return 0;
            }
            int body = bodyFor(act, kind);
            int above = Flyer.kindAbove(body / 10 - 1);
            int deeper = depth + 1;
            note(body);
            switch (body) {
                case 10:
                    return x + number;
                case 11:
                    return own(SWINGS, x, deeper) * 2;
                case 12:
                    return x - flyer.m;
                case 13:
                    return own(FLIES, x, deeper) ^ own(FALLS, x, deeper);
                case 20:
                    return say(SWINGS, above, x, deeper) * 3;
                case 30:
                    return say(FLIES, above, x, deeper) - own(FALLS, 1, deeper);
                case 40:
                    return -say(FALLS, above, x, deeper);
                case 50:
                    return say(TELLS, above, x, deeper) - own(SWINGS, 2, deeper);
                case 60:
                    return say(FLIES, above, x + 1, deeper);
                case 70:
                    return say(FALLS, above, x, deeper) ^ number;
                default:
                    return own(FLIES, x, deeper) - say(TELLS, above, x, deeper);
            }
        }
    }

    /** A row of numbers of so many bits; of 0 bits it is missing. */
    private static final class Sheet {
        private final int[] numbers = new int[MOST_NUMBERS];
        private int bits;
        private int length;

        boolean isMissing() {
            return bits == 0;
        }

        void begin(int newBits, int n) {
            bits = newBits;
            length = newBits == 0 ? 0 : Math.max(0, Math.min(MOST_NUMBERS, n));
            for (int i = 0; i < MOST_NUMBERS; i++) {
                numbers[i] = 0;
            }
        }

        void write(int i, int v) {
            if (i >= 0 && i < length) {
                numbers[i] = bits == 8 ? (byte) v : bits == 16 ? (short) v : v;
            }
        }

        int read(int i) {
            return i >= 0 && i < length ? numbers[i] : 0;
        }

        boolean hasRow(int from, int n) {
            return n >= 0 && n <= length && from >= 0 && from <= length - n;
        }
    }
}
