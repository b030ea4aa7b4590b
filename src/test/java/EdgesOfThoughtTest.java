import java.util.function.Supplier;

/** The edges that the document names, promise by promise: 17 to 27. */
public final class EdgesOfThoughtTest {
    private static final int MIN = Integer.MIN_VALUE;
    private static final int MAX = Integer.MAX_VALUE;
    private static final Due due = new Due("EdgesOfThoughtTest");
    private static final Scene scene = new Scene(due);

    public static void main(String[] args) {
        then();
        can();
        surest();
        odds();
        oddsInLowestTerms();
        pumped();
        inStep();
        mend();
        again();
        againRanges();
        net();
        netOfOneFall();
        phases();
        phasesByBits();
        phasesOfAll();
        late();
        atTheLastTick();
        due.end();
    }

    /** One is CAUGHT if it is told at TICK 59, and at no other TICK up to 1538; PERIODS are 40 and 37. */
    private static CatchBars once() {
        CatchBars x = new CatchBars();
        x.flyer(0);
        x.swing(0, 0, 40);
        x.swing(0, 2, 21);
        x.swing(1, 0, 37);
        x.swing(1, 2, 14);
        x.set(0, 40);
        x.set(1, 0);
        Due.text(x, 0, "1");
        Due.text(x, 1, "0");
        return x;
    }

    private static CatchBars onceAt(int tick) {
        CatchBars x = once();
        x.ticks(tick);
        return x;
    }

    /** All fall: THE CATCHER is too far away for any WIDTH and PHASE. */
    private static CatchBars none() {
        CatchBars x = Due.plain(0);
        x.set(0, 200);
        return x;
    }

    /** All are CAUGHT. */
    private static CatchBars all() {
        CatchBars x = Due.plain(0);
        x.swing(0, 1, 1);
        x.swing(1, 1, 1);
        return x;
    }

    private static void then() {
        scene.flyers("17", (x, f) -> x.then(f, 0, 0));
        scene.range("17: n", 0, 60, Scene::rich, (x, n) -> x.then(2, n, 0));
        scene.range("17: n, late", 0, 60, Scene::full, (x, n) -> x.then(2, n, 2));
        scene.range("17: what", 0, 4, Scene::rich, (x, what) -> x.then(2, 60, what));
        CatchBars x = once();
        int[] caught = {0, 1, 0};
        for (int n = 58; n <= 60; n++) {
            due.due("17: CAUGHT at " + n, x.then(0, n, 1), caught[n - 58]);
            due.due("17: it comes", x.then(0, n, 2), n + 1);
        }
        due.due("17: OFF at 59", x.then(0, 59, 0), 0);
        due.due("17: place at 59", x.then(0, 59, 3), 20);
        due.due("17: HARM at 59, where it is CAUGHT", x.then(0, 59, 4), 10);
        due.due("17: OFF at 60: 18 and 18 less 40", x.then(0, 60, 0), 18 + 17 - 40);
        due.due("17: OFF at 58", x.then(0, 58, 0), 18 + 17 - 40);
        // n is counted from now.
        CatchBars y = onceAt(59);
        due.due("17: CAUGHT now", y.then(0, 0, 1), 1);
        due.due("17: it comes", y.then(0, 0, 2), 60);
        due.due("17: not CAUGHT a TICK later", y.then(0, 1, 1), 0);
    }

    private static void can() {
        scene.flyers("18", (x, f) -> x.can(f, 1, 0));
        for (int w = 0; w < 2; w++) {
            int what = w;
            scene.outside("18: n", 1, 60, Scene::rich, (x, n) -> x.can(4, n, what));
        }
        scene.outside("18: what", 0, 1, Scene::rich, (x, what) -> x.can(4, 60, what));
        int[][] rows = {
            // TICK, n, CAN, NEXT
            {0, 60, 1, 59}, {0, 59, 0, -1}, {0, 1, 0, -1}, {58, 1, 0, -1}, {58, 2, 1, 1}, {59, 1, 1, 0}, {59, 60, 1, 0},
            {60, 60, 0, -1}, {1, 59, 1, 58}, {1, 58, 0, -1},
        };
        for (int[] row : rows) {
            Supplier<CatchBars> maker = row[0] == 0 ? EdgesOfThoughtTest::once : () -> onceAt(row[0]);
            String call = "18: at TICK " + row[0] + " by " + row[1];
            due.due(call, maker.get().can(0, row[1], 0), row[2]);
            if (row[3] < 0) {
                scene.refused(call + ", NEXT", Due.NONE, maker, x -> x.can(0, row[1], 1));
                scene.taken(call + ", how many", maker, x -> x.can(0, row[1], 0));
            } else {
                due.due(call + ", NEXT", maker.get().can(0, row[1], 1), row[3]);
            }
        }
        due.due("18: all of 60", all().can(0, 60, 0), 60);
        due.due("18: none of 60", none().can(0, 60, 0), 0);
        dueBeyondAheadOfNone("18", EdgesOfThoughtTest::none, (x, f, n) -> x.can(f, n, 1));
        scene.refused("18: no such what ahead of NONE", Due.BEYOND, EdgesOfThoughtTest::none, x -> x.can(0, 60, 2));
        scene.refused("18: then NONE", Due.NONE, EdgesOfThoughtTest::none, x -> x.can(0, 60, 1));
    }

    /** An act of a FLYER by n. */
    private interface ByN {
        long on(CatchBars x, int f, int n);
    }

    private static void dueBeyondAheadOfNone(String promise, Supplier<CatchBars> maker, ByN act) {
        for (int f : new int[] {1, -1, 6, MIN, MAX}) {
            scene.refused(promise + ": no such FLYER, " + f, Due.BEYOND, maker, x -> act.on(x, f, 60));
            scene.refused(promise + ": no such FLYER, nor n, " + f, Due.BEYOND, maker, x -> act.on(x, f, 0));
        }
        for (int n : new int[] {0, -1, 61, MIN, MAX}) {
            scene.refused(promise + ": no such n, " + n, Due.BEYOND, maker, x -> act.on(x, 0, n));
        }
    }

    private static void surest() {
        scene.flyers("19", (x, f) -> x.surest(f, 60));
        scene.range("19: n", 1, 60, Scene::rich, (x, n) -> x.surest(4, n));
        int[][] rows = {
            // TICK, n, SUREST: a slip helps at 58 and at 60
            {0, 60, 58}, {0, 59, 58}, {0, 58, 0}, {0, 1, 0}, {58, 1, 0}, {58, 60, 0}, {57, 1, 0}, {57, 2, 1}, {57, 3, 1},
            {60, 1, 0}, {60, 60, 0}, {61, 60, 0}, {1, 58, 57},
        };
        for (int[] row : rows) {
            CatchBars x = row[0] == 0 ? once() : onceAt(row[0]);
            due.due("19: at TICK " + row[0] + " by " + row[1], x.surest(0, row[1]), row[2]);
        }
        due.due("19: all are sure", all().surest(0, 60), 0);
        due.due("19: none is", none().surest(0, 60), 0);
    }

    private static void odds() {
        scene.flyers("20", (x, f) -> x.odds(f, 0, 0));
        scene.range("20: n", 0, 60, Scene::rich, (x, n) -> x.odds(4, n, 1));
        scene.range("20: part", 0, 1, Scene::rich, (x, part) -> x.odds(4, 60, part));
        int[][] rows = {{57, 0, 1}, {58, 1, 9}, {59, 1, 9}, {60, 1, 9}, {0, 0, 1}};
        for (int[] row : rows) {
            due.due("20: at " + row[0] + ", above", once().odds(0, row[0], 0), row[1]);
            due.due("20: at " + row[0] + ", below", once().odds(0, row[0], 1), row[2]);
        }
        due.due("20: at 61", onceAt(1).odds(0, 60, 0), 0);
        due.due("20: at 61", onceAt(1).odds(0, 60, 1), 1);
    }

    /** BARS of SWING 0 are 18, 20, 18, 16 from -1 on; THE CATCHER stays at 18. */
    private static void oddsInLowestTerms() {
        CatchBars x = new CatchBars();
        x.flyer(0);
        x.swing(0, 0, 40);
        x.swing(1, 0, 40);
        x.swing(1, 1, 1);
        x.swing(1, 2, 5);
        x.set(0, 18);
        Due.text(x, 0, "1");
        Due.text(x, 1, "0");
        int[][] rows = {
            // REACH, n, above, below
            {0, 0, 2, 3}, {0, 1, 1, 3}, {1, 0, 2, 3}, {1, 1, 1, 3}, {2, 0, 1, 1}, {2, 1, 1, 1}, {3, 0, 1, 1}, {0, 3, 0, 1},
        };
        for (int[] row : rows) {
            x.set(1, row[0]);
            due.due("20: REACH " + row[0] + " at " + row[1] + ", above", x.odds(0, row[1], 0), row[2]);
            due.due("20: REACH " + row[0] + " at " + row[1] + ", below", x.odds(0, row[1], 1), row[3]);
        }
    }

    /** One is CAUGHT at TICK 0 if WIDTH of SWING 0 is a number, at most 60. */
    private static CatchBars byWidth(int width, int fits) {
        CatchBars x = Due.plain(0);
        x.swing(1, 1, 10);
        x.set(0, fits + 10);
        x.set(1, 0);
        x.swing(0, 1, width);
        return x;
    }

    private static void pumped() {
        scene.flyers("21", (x, f) -> x.pumped(f, 60));
        scene.outside("21: n", 1, 60, Scene::rich, (x, n) -> x.pumped(4, n));
        for (int width = 1; width <= 60; width++) {
            due.due("21: from " + width + " to 60", byWidth(width, 60).pumped(0, 1), 60 - width);
            due.due("21: from " + width + " to 61", byWidth(width, 61).pumped(0, 1), Due.NONE);
            due.due("21: from " + width + " to itself", byWidth(width, width).pumped(0, 1), 0);
            due.due("21: never back", byWidth(width, width - 1).pumped(0, 1), Due.NONE);
        }
        CatchBars x = byWidth(1, 61);
        x.set(1, 1);
        due.due("21: 61 by REACH 1", x.pumped(0, 1), 59);
        due.due("21: WIDTH is as it was", x.swing(0, 1, 1), 1);
        dueBeyondAheadOfNone("21", EdgesOfThoughtTest::none, (y, f, n) -> y.pumped(f, n));
        scene.refused("21: then NONE", Due.NONE, EdgesOfThoughtTest::none, y -> y.pumped(0, 60));
        scene.refused("21: NONE by 59 PUMPS", Due.NONE, () -> byWidth(1, 61), y -> y.pumped(0, 1));
    }

    /** One is CAUGHT at TICK 0 if SWING 1 is at its first BAR 4 TICKS later. */
    private static CatchBars byPhase(int period, int phase) {
        CatchBars x = Due.plain(0);
        x.set(0, 40);
        x.set(1, 0);
        x.swing(1, 0, period);
        x.swing(1, 2, phase);
        return x;
    }

    private static void inStep() {
        scene.flyers("22", (x, f) -> x.inStep(f, 60));
        scene.outside("22: n", 1, 60, Scene::rich, (x, n) -> x.inStep(4, n));
        for (int period : new int[] {4, 5, 37, 39, 40}) {
            for (int phase = 0; phase < period; phase++) {
                // (4 and PHASE and the steps) modulo PERIOD is to be 0.
                int want = (2 * period - 4 - phase) % period;
                CatchBars x = byPhase(period, phase);
                due.due("22: PERIOD " + period + ", PHASE " + phase, x.inStep(0, 1), want);
                due.due("22: PHASE is as it was", x.swing(1, 2, 0), phase);
            }
        }
        due.due("22: 39 steps", byPhase(40, 37).inStep(0, 1), 39);
        due.due("22: all by no step", all().inStep(0, 60), 0);
        dueBeyondAheadOfNone("22", EdgesOfThoughtTest::none, (y, f, n) -> y.inStep(f, n));
        scene.refused("22: then NONE", Due.NONE, EdgesOfThoughtTest::none, y -> y.inStep(0, 60));
    }

    private static void mend() {
        scene.flyers("23", (x, f) -> x.mend(f, 0, 0, 0));
        scene.range("23: n", 0, 60, Scene::rich, (x, n) -> x.mend(4, n, 5, 5));
        scene.range("23: a", 0, 9, Scene::rich, (x, a) -> x.mend(4, 60, a, 5));
        scene.range("23: b", 0, 9, Scene::rich, (x, b) -> x.mend(4, 60, 5, b));
        for (int gap = 0; gap <= 200; gap += 3) {
            CatchBars x = Due.plain(0);
            x.set(0, gap);
            int off = 40 - gap;
            for (int a = 0; a <= 9; a++) {
                for (int b = 0; b <= 9; b++) {
                    due.due("23: OFF " + off + ", " + a + ", " + b, x.mend(0, 0, a, b), off - tenths(off, a) - tenths(off, b));
                }
            }
        }
        due.due("23: the last TICK", once().mend(0, 60, 0, 0), -5);
        due.due("23: the last TICK but one", once().mend(0, 59, 9, 9), 0);
    }

    /** Cut toward 0, so the same for both signs. */
    private static int tenths(int off, int a) {
        int cut = 0;
        for (int left = Math.abs(off) * a; left >= 10; left -= 10) {
            cut++;
        }
        return off < 0 ? -cut : cut;
    }

    private static void againRanges() {
        scene.flyers("24", (x, f) -> x.again(f, 1, 9, 9, 0));
        scene.range("24: n", 1, 60, Scene::rich, (x, n) -> x.again(4, n, 9, 9, 0));
        scene.range("24: g", 0, 99, Scene::rich, (x, g) -> x.again(4, 60, g, 9, 0));
        scene.range("24: h", 0, 99, Scene::rich, (x, h) -> x.again(4, 60, 9, h, 0));
        scene.range("24: part", 0, 1, Scene::rich, (x, part) -> x.again(4, 60, 9, 9, part));
    }

    private static void again() {
        int[][] rows = {
            // n, g, h, above, below: by 58 it never is CAUGHT, by 59 once of 9
            {58, 9, 9, -9, 1}, {58, 99, 99, -99, 1}, {58, 99, 0, 0, 1}, {58, 0, 0, 0, 1}, {58, 99, 1, -1, 1},
            {59, 99, 0, 187, 9}, {59, 99, 12, 17, 27}, {59, 96, 12, 0, 1}, {59, 95, 12, -1, 9}, {59, 97, 12, 17, 81},
            {59, 0, 99, -88, 1}, {59, 0, 0, 0, 1}, {59, 1, 0, 17, 81}, {59, 0, 1, -8, 9}, {59, 8, 1, 0, 1}, {59, 9, 1, 17, 81},
            {60, 97, 12, 17, 81},
        };
        for (int[] row : rows) {
            String call = "24: by " + row[0] + ", g " + row[1] + ", h " + row[2];
            due.due(call + ", above", once().again(0, row[0], row[1], row[2], 0), row[3]);
            due.due(call + ", below", once().again(0, row[0], row[1], row[2], 1), row[4]);
        }
        due.due("24: all are CAUGHT", all().again(0, 60, 99, 99, 0), 99);
        due.due("24: all are CAUGHT", all().again(0, 60, 99, 99, 1), 1);
        due.due("24: all are CAUGHT, for nothing", all().again(0, 60, 0, 99, 0), 0);
        due.due("24: all are CAUGHT, for nothing", all().again(0, 60, 0, 99, 1), 1);
        due.due("24: an ERROR in a long", once().again(0, 0, 0, 0, 0), -1000000001L);
    }

    private static void net() {
        scene.flyers("25", (x, f) -> x.net(f, 60, 0));
        scene.outside("25: n", 1, 60, Scene::rich, (x, n) -> x.net(3, n, 0));
        scene.outside("25: what", 0, 1, Scene::rich, (x, what) -> x.net(3, 60, what));
        for (int w = 0; w < 2; w++) {
            int what = w;
            scene.refused("25: no fall", Due.NONE, EdgesOfThoughtTest::all, x -> x.net(0, 60, what));
            scene.refused("25: no fall by 1", Due.NONE, () -> onceAt(59), x -> x.net(0, 1, what));
            dueBeyondAheadOfNone("25", EdgesOfThoughtTest::all, (x, f, n) -> x.net(f, n, what));
        }
        scene.refused("25: no such what ahead of NONE", Due.BEYOND, EdgesOfThoughtTest::all, x -> x.net(0, 60, 2));
        scene.refused("25: no such what ahead of NONE", Due.BEYOND, EdgesOfThoughtTest::all, x -> x.net(0, 60, -1));
        CatchBars x = onceAt(59);
        due.due("25: one fall by 2, at 18", x.net(0, 2, 0), 18);
        due.due("25: HARM", x.net(0, 2, 1), 0);
        due.due("25: two by 3, at 18 and 16: of several the least", x.net(0, 3, 0), 16);
        due.due("25: HARM", x.net(0, 3, 1), 2);
        due.due("25: three by 4, at 18, 16 and 14", x.net(0, 4, 0), 16);
        due.due("25: HARM", x.net(0, 4, 1), 4);
    }

    /** Places at which one falls, and the NET that is best for it. */
    private static void netOfOneFall() {
        int[][] rows = {
            // WIDTH, PHASE, AIR, km, the NET, HARM
            {60, 2, -99, 0, -99, 60}, {41, 2, -99, 0, -99, 41}, {1, 2, -99, 0, -99, 1}, {1, 1, -99, 0, -99, 0},
            {1, 0, -99, 0, -98, 0}, {60, 0, 99, 0, 159, 0}, {1, 1, 0, 0, 0, 0},
            // Half of a HARM of 1 is 0: the least of three, where there is one below.
            {1, 1, 0, 60, -1, 0}, {1, 1, -99, 60, -99, 0}, {1, 0, -99, 60, -99, 0}, {1, 2, -99, 60, -99, 0},
            {2, 2, -99, 60, -99, 1}, {60, 2, -99, 60, -99, 30}, {60, 0, 99, 60, 158, 0},
        };
        for (int[] row : rows) {
            CatchBars x = Due.plain(row[3]);
            x.swing(0, 1, row[0]);
            x.swing(0, 2, row[1]);
            x.set(0, 200);
            x.set(1, 0);
            Due.text(x, 1, row[2] < 0 ? "0-" + -row[2] : "" + row[2]);
            String call = "25: a fall at " + (new int[] {row[0], 0, -row[0]}[row[1]] + row[2]) + " of " + row[3];
            due.due(call, x.net(0, 1, 0), row[4]);
            due.due(call + ", HARM", x.net(0, 1, 1), row[5]);
            due.due("25: NET is as it was", x.count(7), 30);
        }
        CatchBars x = Due.plain(69);
        x.set(0, 200);
        x.go(0);
        // GOES 1: HARM is half of 1 and the way, 0 right at the fall alone.
        due.due("25: NETTED after a GO", x.net(0, 1, 0), 20);
        due.due("25: HARM", x.net(0, 1, 1), 0);
        x.go(0);
        due.due("25: NETTED after two", x.net(0, 1, 0), 19);
        due.due("25: HARM", x.net(0, 1, 1), 1);
    }

    private static CatchBars withSheet(Supplier<CatchBars> maker, int bits, int... numbers) {
        CatchBars x = maker.get();
        Due.fill(x, 0, bits, numbers);
        return x;
    }

    private static void phases() {
        scene.flyers("26", (x, f) -> x.phases(f, 0, 0));
        scene.outside("26: SHEET", 0, 3, Scene::rich, (x, s) -> x.phases(4, s, 0));
        scene.outside("26: what", 0, 1, Scene::rich, (x, what) -> x.phases(4, 0, what));
        scene.outside("26: what of a missing one", 0, 1, Scene::rich, (x, what) -> x.phases(4, 3, what));
        for (int w = 0; w < 2; w++) {
            int what = w;
            scene.refused("26: missing", Due.NONE, Scene::rich, x -> x.phases(4, 3, what));
            scene.refused("26: missing, no such FLYER", Due.BEYOND, Scene::rich, x -> x.phases(6, 3, what));
            scene.refused("26: no such SHEET, nor FLYER", Due.BEYOND, Scene::rich, x -> x.phases(-1, 4, what));
            scene.refused("26: by none", Due.NONE, () -> withSheet(() -> Due.plain(0), 8, 1), x -> x.phases(0, 0, what));
            scene.refused("26: by none, no such FLYER", Due.BEYOND, () -> withSheet(() -> Due.plain(0), 8, 1),
                x -> x.phases(1, 0, what));
        }
        for (int period = 4; period <= 40; period++) {
            CatchBars x = withSheet(() -> Due.plain(0), 8);
            x.swing(1, 0, period);
            x.swing(1, 2, period - 1);
            due.due("26: an empty one, least", x.phases(0, 0, 0), 0);
            due.due("26: an empty one, how many of " + period, x.phases(0, 0, 1), period);
            due.due("26: PHASE is as it was", x.swing(1, 2, 0), period - 1);
            // OFF 40 if SWING 1 is at its first BAR at 4, by the last PHASE but three.
            Due.fill(x, 0, 16, 40);
            due.due("26: the least of " + period, x.phases(0, 0, 0), period - 4);
            due.due("26: how many of " + period, x.phases(0, 0, 1), 1);
            Due.text(x, 0, "1");
            due.due("26: the last PHASE of " + period, x.phases(0, 0, 0), period - 1);
            due.due("26: how many", x.phases(0, 0, 1), 1);
        }
    }

    /** OFF 127 and -128 stand in 8 bits, those right beyond don't; in 16 and 32 bits they do. */
    private static void phasesByBits() {
        for (int off : new int[] {126, 127, 128, 129, -127, -128, -129, -130, -160}) {
            for (int bits : new int[] {8, 16, 32}) {
                CatchBars x = Due.plain(0);
                x.swing(0, 1, 60);
                Due.text(x, 1, off > 0 ? "" + (off - 80) : "0-40");
                x.set(0, off > 0 ? 0 : 40 - off);
                due.due("17: OFF", x.then(0, 0, 0), off);
                Due.fill(x, 2, bits, off);
                boolean fits = bits > 8 || off >= -128 && off <= 127;
                due.due("26: OFF " + off + " in " + bits + " bits", x.phases(0, 2, 0), fits ? 0 : Due.NONE);
                due.due("27: OFF " + off + " in " + bits + " bits", x.late(0, 2), fits ? 0 : Due.NONE);
            }
        }
    }

    /** OFF is 0 at all TICKS, by PHASE 0 alone. */
    private static CatchBars zeros() {
        CatchBars x = Due.plain(0);
        Due.text(x, 0, "2");
        return x;
    }

    private static void phasesOfAll() {
        for (int n : new int[] {1, 2, 39, 40}) {
            CatchBars x = withSheet(EdgesOfThoughtTest::zeros, 32, new int[n]);
            due.due("26: " + n + " numbers, the least", x.phases(0, 0, 0), 0);
            due.due("26: " + n + " numbers, how many", x.phases(0, 0, 1), 1);
            due.due("27: " + n + " numbers", x.late(0, 0), 0);
            for (int i = 0; i < n; i++) {
                x.put(0, i, 1);
                due.due("26: number " + i + " is wrong", x.phases(0, 0, 0), Due.NONE);
                due.due("26: number " + i + " is wrong, how many", x.phases(0, 0, 1), Due.NONE);
                due.due("27: number " + i + " is wrong", x.late(0, 0), Due.NONE);
                x.put(0, i, 0);
            }
            due.due("27: all are right again", x.late(0, 0), 0);
        }
    }

    /** OFF is 20 less twice the LAG, up to a LAG of 9; a TICK later it is -1. */
    private static CatchBars byLag(int km) {
        CatchBars x = new CatchBars();
        x.flyer(km);
        x.swing(0, 0, 40);
        x.swing(1, 0, 40);
        x.swing(1, 1, 1);
        x.set(0, 0);
        Due.text(x, 0, "1");
        Due.text(x, 1, "0");
        return x;
    }

    private static void late() {
        scene.flyers("27", (x, f) -> x.late(f, 0));
        scene.outside("27: SHEET", 0, 3, Scene::rich, (x, s) -> x.late(4, s));
        scene.refused("27: missing", Due.NONE, Scene::rich, x -> x.late(4, 3));
        scene.refused("27: missing, no such FLYER", Due.BEYOND, Scene::rich, x -> x.late(6, 3));
        scene.refused("27: no such SHEET, nor FLYER", Due.BEYOND, Scene::rich, x -> x.late(-1, -1));
        for (int km : new int[] {0, 22, 51, 30}) {
            for (int lag = 0; lag <= 9; lag++) {
                CatchBars x = withSheet(() -> byLag(km), 8, 20 - 2 * lag);
                int own = x.ofFlyer(0, 4);
                due.due("27: LAG " + lag + " of " + km, x.late(0, 0), lag);
                due.due("27: its own LAG is as it was", x.ofFlyer(0, 4), own);
            }
            scene.refused("27: LAG 10 of " + km, Due.NONE, () -> withSheet(() -> byLag(km), 8, -1), x -> x.late(0, 0));
            due.due("27: an empty one", withSheet(() -> byLag(km), 16).late(0, 0), 0);
        }
        due.due("17: OFF at 10 is -1", byLag(0).then(0, 10, 0), -1);
        scene.refused("27: by none, no such FLYER", Due.BEYOND, () -> withSheet(() -> byLag(0), 8, -1), x -> x.late(1, 0));
    }

    /** At TICK 9999 what would be goes on beyond it. */
    private static void atTheLastTick() {
        CatchBars x = Scene.full();
        // FLYER 2 is CALLED, m 7: LAG 2; FLIGHT 1 and 14 and 4.
        due.due("17: it comes", x.then(2, 0, 2), 9999 + 2 + 19);
        due.due("17: it comes", x.then(2, 60, 2), 9999 + 60 + 2 + 19);
        CatchBars y = all();
        for (int i = 0; i < 50; i++) {
            y.ticks(i < 49 ? 200 : 199);
        }
        Due.text(y, 0, "30");
        y.become(0, 22);
        due.due("17: it comes at 10092 at most", y.then(0, 60, 2), 10092);
        y.set(1, 30);
        due.due("18: all of 60", y.can(0, 60, 0), 60);
        due.due("20: all are sure", y.odds(0, 60, 0), 1);
        due.due("20: all are sure", y.odds(0, 60, 1), 1);
        due.due("14: TICK is as it was", y.count(1), 9999);
    }
}
