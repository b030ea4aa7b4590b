/** The edges that the document names, promise by promise: 1 to 16, and the terms that these use. */
public final class EdgesOfFlightTest {
    private static final int MIN = Integer.MIN_VALUE;
    private static final int MAX = Integer.MAX_VALUE;
    private static final Due due = new Due("EdgesOfFlightTest");
    private static final Scene scene = new Scene(due);

    public static void main(String[] args) {
        newObject();
        swing();
        phaseByPeriod();
        bar();
        barsAheadOfTheFirst();
        set();
        flyer();
        ofFlyer();
        lags();
        holds();
        harms();
        become();
        as();
        turn();
        feed();
        textOfTheTape();
        textOpen();
        textNumbers();
        textCompared();
        law();
        lawsThatWrap();
        go();
        caughtAtTheEdge();
        goesAtMost();
        hurtAtMost();
        catchesAndFalls();
        ticks();
        evenings();
        draws();
        rest();
        due.end();
    }

    private static void newObject() {
        CatchBars x = new CatchBars();
        int[] counts = {0, 0, 0, 0, 0, 60, 5, 30, 0, 0, 0, 1};
        for (int what = 0; what < counts.length; what++) {
            due.due("1: count(" + what + ") at first", x.count(what), counts[what]);
        }
        for (int s = 0; s < 4; s++) {
            due.due("1: SHEET " + s + " is missing", x.put(s, 0, 0), Due.NONE);
        }
        due.due("1: no IMAGE", x.restore(), Due.NONE);
        due.due("1: no TRACE", x.trace(0), Due.NONE);
        due.due("1: nothing waits", x.check(), 0);
        due.due("1: THE TAPE is empty", x.text(0), -10);
        for (int f = 0; f < 6; f++) {
            due.due("1: no FLYER " + f, x.ofFlyer(f, 0), Due.BEYOND);
        }
        int[] told = {6, 6, 0, 0, 0};
        for (int k = 1; k <= 5; k++) {
            due.due("1: told(" + k + ")", x.told(k), told[k - 1]);
        }
    }

    private static void swing() {
        scene.range("2: SWING", 0, 1, Scene::rich, (x, s) -> x.swing(s, 1, 9));
        scene.range("2: what", 0, 2, Scene::rich, (x, what) -> x.swing(1, what, 5));
        for (int s = 0; s < 2; s++) {
            int of = s;
            scene.range("2: PERIOD of " + s, 4, 40, Scene::rich, (x, v) -> x.swing(of, 0, v));
            scene.range("2: WIDTH of " + s, 1, 60, Scene::rich, (x, v) -> x.swing(of, 1, v));
        }
        scene.range("2: PHASE by PERIOD 16", 0, 15, Scene::rich, (x, v) -> x.swing(0, 2, v));
        scene.range("2: PHASE by PERIOD 9", 0, 8, Scene::rich, (x, v) -> x.swing(1, 2, v));
        scene.range("2: PHASE by PERIOD 12, as at first", 0, 11, CatchBars::new, (x, v) -> x.swing(1, 2, v));
        scene.range("2: PHASE by PERIOD 4", 0, 3, () -> withPeriod(4), (x, v) -> x.swing(0, 2, v));
        scene.range("2: PHASE by PERIOD 40", 0, 39, () -> withPeriod(40), (x, v) -> x.swing(0, 2, v));
        CatchBars x = new CatchBars();
        int[][] rows = {
            // what, v, what it was
            {0, 4, 12}, {0, 40, 4}, {0, 40, 40}, {1, 1, 20}, {1, 60, 1}, {1, 60, 60}, {2, 39, 0}, {2, 0, 39}, {2, 0, 0},
        };
        for (int[] row : rows) {
            due.due("2: swing(1, " + row[0] + ", " + row[1] + ")", x.swing(1, row[0], row[1]), row[2]);
        }
        due.due("2: the other PERIOD", x.swing(0, 0, 12), 12);
        due.due("2: the other WIDTH", x.swing(0, 1, 20), 20);
    }

    private static CatchBars withPeriod(int period) {
        CatchBars x = new CatchBars();
        x.swing(0, 0, period);
        return x;
    }

    private static void phaseByPeriod() {
        int[][] rows = {
            // PERIOD, PHASE, the next PERIOD, PHASE then
            {40, 39, 40, 39}, {40, 39, 39, 0}, {40, 38, 39, 38}, {40, 39, 38, 1}, {40, 39, 20, 19}, {40, 39, 4, 3},
            {12, 11, 11, 0}, {12, 11, 4, 3}, {12, 8, 4, 0}, {12, 11, 40, 11}, {4, 3, 5, 3}, {12, 0, 4, 0},
        };
        for (int[] row : rows) {
            for (int s = 0; s < 2; s++) {
                CatchBars x = new CatchBars();
                x.swing(s, 0, row[0]);
                x.swing(s, 2, row[1]);
                String call = "2: PHASE " + row[1] + " of " + row[0] + " by PERIOD " + row[2];
                due.due(call + ", PERIOD was", x.swing(s, 0, row[2]), row[0]);
                due.due(call, x.swing(s, 2, 0), row[3]);
            }
        }
    }

    private static void bar() {
        scene.range("3: SWING", 0, 1, Scene::rich, (x, s) -> x.bar(s, 0));
        scene.range("3: TICK", 0, 19999, Scene::rich, (x, t) -> x.bar(1, t));
        CatchBars x = new CatchBars();
        x.swing(0, 0, 7);
        x.swing(0, 1, 60);
        x.swing(0, 2, 6);
        // 19999 is 7 times 2857: r is 6, d is 5, 120 times 5 by 7 is 85.
        due.due("3: bar(0, 19999)", x.bar(0, 19999), 25);
        due.due("3: bar(0, 19998): r is 5, d is 3", x.bar(0, 19998), 51 - 60);
        due.due("3: bar(0, 0): r is 6", x.bar(0, 0), 25);
        due.due("3: bar(0, 1): r is 0", x.bar(0, 1), 60);
        x.swing(0, 0, 40);
        x.swing(0, 1, 1);
        x.swing(0, 2, 0);
        int[][] narrow = {{0, 1}, {1, 0}, {10, 0}, {11, -1}, {20, -1}, {29, -1}, {30, 0}, {39, 0}, {40, 1}};
        for (int[] row : narrow) {
            due.due("3: WIDTH 1, PERIOD 40, bar(0, " + row[0] + ")", x.bar(0, row[0]), row[1]);
        }
        x.swing(0, 0, 4);
        x.swing(0, 1, 60);
        int[] wide = {60, 0, -60, 0, 60};
        for (int t = 0; t < wide.length; t++) {
            due.due("3: WIDTH 60, PERIOD 4, bar(0, " + t + ")", x.bar(0, t), wide[t]);
        }
        x.swing(0, 0, 5);
        int[] odd = {60, 12, -36, -36, 12, 60};
        for (int t = 0; t < odd.length; t++) {
            due.due("3: WIDTH 60, PERIOD 5, bar(0, " + t + ")", x.bar(0, t), odd[t]);
        }
    }

    /** BARS at -1 (v at TICK 0) and at -2 (v where one lets go a TICK sooner than 0). */
    private static void barsAheadOfTheFirst() {
        CatchBars x = Due.plain(0);
        Due.text(x, 1, "v");
        due.due("terms: v at 0 is 20 less 0", x.then(0, 0, 3), 40);
        x.swing(0, 2, 3);
        due.due("terms: v at 0 is 0 less -20", x.then(0, 0, 3), 20);
        x.swing(0, 2, 0);
        x.swing(1, 1, 1);
        x.set(0, 20);
        x.set(1, 0);
        // It lets go at -1: at 0 and v 20 it comes at 3 to 20, where THE CATCHER is; else to 40 or to -20.
        due.due("terms: BAR at -2, part 0", x.odds(0, 0, 0), 1);
        due.due("terms: BAR at -2, part 1", x.odds(0, 0, 1), 9);
    }

    private static void set() {
        scene.range("4: what", 0, 2, Scene::rich, (x, what) -> x.set(what, 7));
        scene.range("4: GAP", 0, 200, Scene::rich, (x, v) -> x.set(0, v));
        scene.range("4: REACH", 0, 30, Scene::rich, (x, v) -> x.set(1, v));
        scene.range("4: NET", -99, 299, Scene::rich, (x, v) -> x.set(2, v));
        int[][] rows = {
            {0, 0, 60}, {0, 200, 0}, {0, 199, 200}, {1, 0, 5}, {1, 30, 0}, {1, 29, 30},
            {2, -99, 30}, {2, 299, -99}, {2, -1, 299}, {2, 0, -1},
        };
        CatchBars x = new CatchBars();
        for (int[] row : rows) {
            due.due("4: set(" + row[0] + ", " + row[1] + ")", x.set(row[0], row[1]), row[2]);
            due.due("4: and it is so", x.count(5 + row[0]), row[1]);
        }
    }

    private static void flyer() {
        scene.range("5: km", 0, 69, () -> Scene.withFlyers(5), (x, km) -> x.flyer(km));
        for (int km : new int[] {0, 9, 10, 60, 69}) {
            scene.refused("5: a seventh, " + km, Due.FULL, Scene::rich, x -> x.flyer(km));
        }
        for (int km : new int[] {-1, 70, MIN, MAX}) {
            scene.refused("5: a seventh of no KIND, " + km, Due.BEYOND, Scene::rich, x -> x.flyer(km));
        }
        int[][] kms = {{0, 0, 0}, {9, 0, 9}, {10, 1, 0}, {19, 1, 9}, {59, 5, 9}, {60, 6, 0}, {69, 6, 9}};
        for (int[] row : kms) {
            CatchBars x = new CatchBars();
            due.due("5: flyer(" + row[0] + ")", x.flyer(row[0]), 0);
            due.due("5: KIND of " + row[0], x.ofFlyer(0, 0), row[1]);
            due.due("5: m of " + row[0], x.ofFlyer(0, 1), row[2]);
        }
        CatchBars x = new CatchBars();
        for (int i = 0; i < 6; i++) {
            due.due("5: the number", x.flyer(7), i);
        }
        // What an IMAGE without them leaves free is as at first.
        CatchBars y = new CatchBars();
        y.image();
        y.flyer(69);
        y.turn(0, 3);
        y.go(0);
        y.restore();
        due.due("5: the first again", y.flyer(5), 0);
        int[] first = {0, 5, 1, 0, 0, 5, 10};
        for (int what = 0; what < 7; what++) {
            due.due("5: as at first, " + what, y.ofFlyer(0, what), first[what]);
        }
    }

    private static void ofFlyer() {
        scene.flyers("6", (x, f) -> x.ofFlyer(f, 0));
        scene.range("6: what", 0, 6, Scene::rich, (x, what) -> x.ofFlyer(3, what));
    }

    /** So many GOES of FLYER 0, who becomes one of km then. */
    private static CatchBars afterGoes(int km, int goes) {
        CatchBars x = Due.plain(0);
        for (int i = 0; i < goes; i++) {
            x.go(0);
        }
        x.become(0, km);
        return x;
    }

    private static void lags() {
        int[] called = {1, 2, 3, 1, 2, 3, 1, 2, 3, 1};
        for (int m = 0; m < 10; m++) {
            due.due("terms: LAG of CALLED, m " + m, afterGoes(20 + m, 0).ofFlyer(0, 4), called[m]);
            due.due("terms: LAG of HUP, m " + m, afterGoes(50 + m, 0).ofFlyer(0, 4), called[m] - 1);
            for (int kind = 3; kind <= 6; kind += 3) {
                due.due("terms: TIRED, GOES are m " + m, afterGoes(kind * 10 + m, m).ofFlyer(0, 4), 0);
                due.due("terms: TIRED, GOES above m " + m, afterGoes(kind * 10 + m, m + 1).ofFlyer(0, 4), 1);
            }
            for (int kind : new int[] {0, 1, 4}) {
                due.due("terms: no LAG of " + kind, afterGoes(kind * 10 + m, 10).ofFlyer(0, 4), 0);
            }
        }
    }

    private static void holds() {
        int[][] rows = {
            // km, GOES, REACH, HOLDS
            {0, 9, 0, 0}, {0, 9, 30, 30}, {10, 9, 0, 1}, {19, 9, 30, 31}, {40, 0, 0, 1}, {49, 0, 0, 10}, {49, 9, 30, 40},
            {29, 9, 30, 30}, {59, 9, 30, 30},
            {30, 0, 0, 0}, {30, 2, 5, 5}, {30, 3, 5, 4}, {30, 5, 5, 4}, {30, 6, 5, 3}, {30, 3, 0, 0}, {30, 3, 1, 0},
            {30, 6, 1, 0}, {39, 98, 30, 0}, {39, 90, 30, 0}, {39, 89, 30, 1}, {39, 99, 30, 0},
            {60, 2, 5, 5}, {60, 3, 5, 4}, {60, 6, 1, 0}, {69, 99, 30, 0}, {69, 89, 30, 1},
        };
        for (int[] row : rows) {
            CatchBars x = afterGoes(row[0], row[1]);
            x.set(1, row[2]);
            due.due("terms: HOLDS of REACH " + row[2] + " of " + row[0] + " after " + row[1] + " GOES",
                x.ofFlyer(0, 5), row[3]);
        }
    }

    private static void harms() {
        int[][] rows = {
            {0, 9, 10}, {19, 9, 10}, {29, 9, 10}, {49, 9, 10}, {59, 9, 10},
            {30, 0, 10}, {30, 1, 11}, {30, 99, 109}, {30, 101, 109},
            {60, 0, 5}, {60, 1, 5}, {60, 2, 6}, {60, 98, 54}, {60, 99, 54}, {60, 101, 54},
        };
        for (int[] row : rows) {
            due.due("terms: HARM of 10 of " + row[0] + " after " + row[1] + " GOES",
                afterGoes(row[0], row[1]).ofFlyer(0, 6), row[2]);
        }
    }

    private static void become() {
        scene.flyers("7", (x, f) -> x.become(f, 12));
        scene.range("7: km", 0, 69, Scene::rich, (x, km) -> x.become(4, km));
        CatchBars y = Due.plain(13);
        y.turn(0, 3);
        y.go(0);
        y.become(0, 69);
        due.due("7: TURNS stay", y.ofFlyer(0, 2), 3);
        due.due("7: GOES stay", y.ofFlyer(0, 3), 1);
        CatchBars x = Scene.withFlyers(1);
        int[][] rows = {{69, 0, 6, 9}, {0, 6, 0, 0}, {9, 0, 0, 9}, {10, 0, 1, 0}, {60, 1, 6, 0}};
        for (int[] row : rows) {
            due.due("7: become(0, " + row[0] + ")", x.become(0, row[0]), row[1]);
            due.due("7: KIND", x.ofFlyer(0, 0), row[2]);
            due.due("7: m", x.ofFlyer(0, 1), row[3]);
        }
    }

    private static void as() {
        scene.flyers("8", (x, f) -> x.as(f, 0));
        scene.outside("8: KIND", 0, 6, Scene::rich, (x, kind) -> x.as(4, kind));
        int[][] isNot = {
            {1, 2, 3, 4, 5, 6}, {2, 3, 4, 5, 6}, {1, 3, 4, 5, 6}, {1, 2, 4, 5, 6}, {2, 3, 5, 6}, {1, 3, 4, 6}, {1, 2, 4, 5},
        };
        for (int kind = 0; kind < 7; kind++) {
            int km = kind * 10 + 9;
            for (int other : isNot[kind]) {
                scene.refused("8: KIND " + kind + " as " + other, Due.KIND, () -> afterGoes(km, 1), x -> x.as(0, other));
            }
            due.due("8: as its own KIND", afterGoes(km, 0).as(0, kind), 9);
            due.due("8: as a FLYER", afterGoes(km - 9, 0).as(0, 0), 0);
        }
        scene.refused("8: BEYOND ahead of KIND", Due.BEYOND, Scene::rich, x -> x.as(6, 4));
        scene.refused("8: BEYOND ahead of KIND", Due.BEYOND, Scene::rich, x -> x.as(0, 7));
        scene.refused("8: then KIND", Due.KIND, Scene::rich, x -> x.as(0, 4));
    }

    private static void turn() {
        scene.flyers("9", (x, f) -> x.turn(f, 2));
        scene.range("9: TURNS", 1, 3, Scene::rich, (x, k) -> x.turn(4, k));
        CatchBars x = Scene.withFlyers(6);
        due.due("9: turn(5, 3)", x.turn(5, 3), 1);
        due.due("9: turn(5, 3)", x.turn(5, 3), 3);
        due.due("9: turn(5, 1)", x.turn(5, 1), 3);
        due.due("9: turn(5, 1)", x.turn(5, 1), 1);
    }

    private static CatchBars withTape(int bytes) {
        CatchBars x = new CatchBars();
        for (int i = 0; i < bytes; i++) {
            x.feed('1' + i % 2 * ('+' - '1'), 1);
        }
        return x;
    }

    private static void feed() {
        scene.range("10: n", 1, 8, Scene::rich, (x, n) -> x.feed(0x2b2b2b2b2b2b2b2bL, n));
        for (int n = 1; n <= 8; n++) {
            int of = n;
            due.due("10: " + n + " bytes fit just so", withTape(50 - n).feed(0x31, n), 50);
            due.due("10: " + n + " bytes to an empty TAPE", new CatchBars().feed(-1L, n), n);
            scene.refused("10: " + n + " bytes, one too many", Due.FULL, () -> withTape(51 - of), x -> x.feed(0x31, of));
            scene.refused("10: " + n + " bytes to a full TAPE", Due.FULL, Scene::full, x -> x.feed(0x31, of));
        }
        for (int n : new int[] {0, 9, -1, MIN, MAX}) {
            scene.refused("10: BEYOND ahead of FULL, " + n, Due.BEYOND, Scene::full, x -> x.feed(0x31, n));
        }
        due.due("10: THE TAPE is full", Scene.full().count(8), 50);
        // Each byte by itself, the lowest first, the eighth with its sign, too.
        String eight = "9+8*7-61";
        for (int n = 1; n <= 8; n += 7) {
            CatchBars x = new CatchBars();
            long word = 0;
            for (int i = 7; i >= 0; i--) {
                word = word << 8 | eight.charAt(i);
            }
            x.feed(word, n);
            due.due("10: TEXT of " + n, x.text(1), 1);
            due.due("10: law", x.law(1, 0, 0, 0), n == 1 ? 9 : 9 + 56 - 61);
        }
        int[] bytes = {0, 127, 128, 255, 32, 10};
        for (int b : bytes) {
            CatchBars x = new CatchBars();
            due.due("10: byte " + b, x.feed((long) b << 8 | '7', 2), 2);
            due.due("10: it goes on with no TEXT", x.text(0), -11);
            due.due("10: byte " + b + " as the eighth", x.feed((long) b << 56 | 0x2b312b312b312bL, 8), 8);
            due.due("10: the first is none", x.text(0), -10);
        }
    }

    private static void textOfTheTape() {
        for (int use : new int[] {-1, 2, MIN, MAX}) {
            scene.refused("11: USE " + use, Due.BEYOND, Scene::rich, x -> x.text(use));
            scene.refused("11: USE " + use + ", an empty TAPE", Due.BEYOND, CatchBars::new, x -> x.text(use));
            scene.refused("11: USE " + use + ", a FAULT", Due.BEYOND, () -> withTape(2), x -> x.text(use));
        }
        for (int use = 0; use < 2; use++) {
            CatchBars x = new CatchBars();
            due.due("11: an empty TAPE", x.text(use), -10);
            due.due("11: and one again", x.text(use), -10);
            due.due("11: USE " + use + ", 50 bytes, the last one lacks", textAfter(x, use, withHead(25, "")), -60);
            due.due("11: USE " + use + ", 50 bytes, the last one is wrong", textAfter(x, use, withHead(24, "1)")), -59);
            due.due("11: USE " + use + ", 49 bytes", textAfter(x, use, withHead(24, "1")), 1);
            due.due("11: law", x.law(use, 0, 0, 0), 25);
            due.due("11: USE " + use + ", 50 bytes", textAfter(x, use, withHead(24, "m1")), -59);
            due.due("11: the TEXT ahead stays", x.law(use, 0, 0, 0), 25);
            due.due("11: USE " + use + ", 50 bytes", textAfter(x, use, withHead(24, "05")), 1);
            due.due("11: in place of it", x.law(use, 0, 0, 0), 29);
            due.due("11: one byte", textAfter(x, use, "7"), 1);
            due.due("11: in place of it", x.law(use, 0, 0, 0), 7);
            due.due("11: one byte, a FAULT", textAfter(x, use, "("), -11);
            due.due("11: and an empty TAPE", x.text(use), -10);
            due.due("11: the TEXT ahead stays", x.law(use, 0, 0, 0), 7);
            for (int k = 1; k <= 5; k++) {
                due.due("11: a FAULT is no ERROR", x.told(k), 0);
            }
        }
        CatchBars y = new CatchBars();
        textAfter(y, 0, "x");
        due.due("11: a FAULT leaves what is without a TEXT", y.law(0, 2, 0, 0), 7);
        due.due("11: THE TAPE is empty then, and takes 50", feedAll(y, withHead(24, "05")), 50);
    }

    private static String withHead(int ones, String end) {
        return "1+".repeat(ones) + end;
    }

    private static int textAfter(CatchBars x, int use, String text) {
        due.due("11: THE TAPE holds " + text, feedAll(x, text), text.length());
        int answer = x.text(use);
        due.due("11: THE TAPE is empty after " + text, x.count(8), 0);
        return answer;
    }

    private static int feedAll(CatchBars x, String text) {
        Due.feed(x, text);
        return x.count(8);
    }

    private static void faults(Object[][] rows) {
        CatchBars x = new CatchBars();
        for (Object[] row : rows) {
            String text = (String) row[0];
            int fault = (Integer) row[1];
            due.due("11: text " + text, Due.text(x, 1, text), fault < 0 ? 1 : -10 - fault);
        }
    }

    /** At most 5 of ! and ( are open at once, whichever they are, and those that are closed don't count. */
    private static void textOpen() {
        for (int open = 0; open < 32; open++) {
            StringBuilder head = new StringBuilder();
            StringBuilder tail = new StringBuilder();
            for (int i = 0; i < 5; i++) {
                boolean not = (open >> i & 1) == 1;
                head.append(not ? '!' : '(');
                tail.append(not ? "" : ")");
            }
            faults(new Object[][] {
                {"" + head + "m" + tail, -1}, {head + "(", 5}, {head + "!m", 5}, {head + "m" + tail + ")", 6 + tail.length()},
                {head + "m" + tail + "+" + head + "m" + tail, -1},
                {head + "m" + tail + "+" + head + "(m)", 12 + tail.length()},
                {head.substring(1) + "(m)" + (head.charAt(0) == '(' ? tail.substring(1) : tail), -1}, {head.toString(), 5},
            });
        }
        faults(new Object[][] {
            {"!!!!!m+!!!!!m*!!!!!m", -1}, {"(!!!!m+!!!!m)", -1}, {"((!!!m)+!!!!m)", -1}, {"((!!!m)+!!!!!m)", 12},
            {"(((((m)+(m))+(m))+(m))+(m))", -1}, {"(((((m)+((m))+(m))+(m))+(m))", 9}, {"!(!(!m))", -1}, {"!(!(!!m))", 5},
        });
    }

    private static void textNumbers() {
        faults(new Object[][] {
            {"0", -1}, {"9", -1}, {"99", -1}, {"999", -1}, {"9999", -1}, {"99999", 4}, {"00000", 4}, {"0000", -1},
            {"9999+9999", -1}, {"9999+99999", 9}, {"12345+1", 4}, {"1+", 2}, {"+1", 0}, {"-1", 0}, {":", 0}, {"/", 0},
            {"1:", 1}, {"k1", 1}, {"1k", 1}, {"km", 1}, {"l", 0}, {"j", 0}, {"u", 0}, {"w", 0}, {"n", 0}, {"K", 0},
            {"1 + 1", 1}, {" 1", 0}, {"1 ", 1},
        });
        CatchBars x = new CatchBars();
        Due.text(x, 1, "9999-9998+0009");
        due.due("11: 9999 less 9998 and 0009", x.law(1, 0, 0, 0), 10);
    }

    /** S, or S < S: one sign of these, in each of what & and | and ( part. */
    private static void textCompared() {
        for (String sign : new String[] {"<", "=", ">"}) {
            for (String other : new String[] {"<", "=", ">"}) {
                faults(new Object[][] {
                    {"k" + sign + "m", -1}, {"k" + sign + "m" + other + "v", 3}, {"k" + sign + other + "m", 2},
                    {"k" + sign + "m&k" + other + "m", -1}, {"k" + sign + "m|k" + other + "m", -1},
                    {"(k" + sign + "m)" + other + "v", -1}, {"k" + sign + "(m" + other + "v)", -1},
                    {"(k" + sign + "m" + other + "v)", 4}, {"k+1" + sign + "m*2" + other + "v", 7},
                    {"k" + sign + "!m" + other + "v", 4}, {"k" + sign, 2}, {sign + "k", 0},
                });
            }
        }
    }

    private static void law() {
        scene.range("12: USE", 0, 1, Scene::rich, (x, use) -> x.law(use, MIN, MAX, 0));
        for (String name : new String[] {"k", "v", "m"}) {
            CatchBars x = new CatchBars();
            Due.text(x, 0, name);
            Due.text(x, 1, name);
            int[][] rows = {
                {MIN, 1, -99}, {-100, 1, -99}, {-99, 1, -99}, {-98, 1, -98}, {-1, 1, -1}, {0, 1, 0}, {1, 1, 1},
                {2, 2, 2}, {29, 29, 29}, {30, 30, 30}, {31, 30, 31}, {98, 30, 98}, {99, 30, 99}, {100, 30, 99},
                {MAX, 30, 99},
            };
            for (int[] row : rows) {
                int k = name.equals("k") ? row[0] : 7;
                int v = name.equals("v") ? row[0] : 8;
                int m = name.equals("m") ? row[0] : 9;
                due.due("12: FLIGHT of " + name + " " + row[0], x.law(0, k, v, m), row[1]);
                due.due("12: AIR of " + name + " " + row[0], x.law(1, k, v, m), row[2]);
            }
        }
        // Without a TEXT they are held within, too: 3 and 27, 3 and 28, and so on.
        CatchBars y = new CatchBars();
        int[][] flights = {{13, 29}, {14, 30}, {-1, 1}, {0, 3}, {1, 5}, {3, 9}, {-2, 1}};
        for (int[] row : flights) {
            due.due("12: FLIGHT without a TEXT, k " + row[0], y.law(0, row[0], 5, 5), row[1]);
        }
        int[][] airs = {{1, 23, 97}, {2, 24, 98}, {0, 23, 99}, {1, 24, 99}, {0, -43, -99}, {1, -43, -99}, {1, -42, -98}};
        for (int[] row : airs) {
            due.due("12: AIR without a TEXT, k " + row[0] + ", v " + row[1], y.law(1, row[0], row[1], 5), row[2]);
        }
    }

    private static void lawsThatWrap() {
        Object[][] rows = {
            // TEXT, k, v, AIR
            {"k+v", MAX, 1, -99}, {"k+v", MIN, -1, 99}, {"k-v", MIN, 1, 99}, {"k-v", MAX, -1, -99}, {"0-k", MIN, 0, -99},
            {"k+v", MAX, MIN, -1}, {"k+v", MAX, MAX, -2}, {"k+v", MIN, MIN, 0}, {"k*v", MIN, -1, -99}, {"k*v", MAX, MAX, 1},
            {"k*v", MIN, MIN, 0}, {"k*v", 65536, 65536, 0}, {"k*v", 65536, 32768, -99}, {"k*v", 46341, 46341, -99},
            {"k*v", 46340, 46340, 99}, {"k/v", MIN, -1, -99}, {"k%v", MIN, -1, 0}, {"k/v", MIN, 0, 0}, {"k%v", MIN, 0, 0},
            {"k/v", MAX, MIN, 0}, {"k%v", 7, MIN, 7}, {"k%v", -7, MIN, -7}, {"k/v", -7, 2, -3}, {"k%v", -7, 2, -1},
            {"k/v", 7, -2, -3}, {"k%v", 7, -2, 1}, {"k/v", -7, -2, 3}, {"k%v", -7, -2, -1}, {"k/v", -1, 2, 0},
            {"k<v", MIN, MAX, 1}, {"k<v", MAX, MIN, 0}, {"k>v", MAX, MIN, 1}, {"k>v", MIN, MAX, 0}, {"k=v", MIN, MAX, 0},
            {"k=v", MIN, MIN, 1}, {"k<v", MIN, MIN, 0}, {"k>v", MAX, MAX, 0}, {"k<v+1", MAX, MAX, 0}, {"k+1<v", MAX, 0, 1},
            {"!k", MIN, 0, 0}, {"!k", 0, 0, 1}, {"!k", -1, 0, 0}, {"k&v", MIN, MIN, 1}, {"k&v", 2, 4, 1}, {"k|v", 0, 0, 0},
            {"k|v", MIN, 0, 1}, {"k+k", MIN, 0, 0}, {"k+k|v", MIN, 0, 0}, {"!(k+k)", MIN, 0, 1}, {"k/0+v", 5, 3, 3},
            {"k%0+v", 5, 3, 3}, {"0/k", 0, 0, 0}, {"0&(1/0)", 0, 0, 0}, {"1|(1/0)", 0, 0, 1},
            {"9999*9999*22-k", 9999 * 9999 * 22, 0, 0}, {"9999*9999*22<0", 0, 0, 1}, {"9999*9999*21>0", 0, 0, 1},
        };
        CatchBars x = new CatchBars();
        for (Object[] row : rows) {
            due.due("12: text " + row[0], Due.text(x, 1, (String) row[0]), 1);
            due.due("12: " + row[0] + " of " + row[1] + ", " + row[2],
                x.law(1, (Integer) row[1], (Integer) row[2], 0), (Integer) row[3]);
        }
        CatchBars y = new CatchBars();
        due.due("12: 3 and twice the most", y.law(0, MAX, 0, 0), 1);
        due.due("12: 3 and twice the least", y.law(0, MIN, 0, 0), 3);
        due.due("12: 3 and twice 2 ^ 30", y.law(0, 1 << 30, 0, 0), 1);
        due.due("12: thrice the most wraps to 2 less than it, and 30 on", y.law(1, 0, MAX, 0), -99);
        due.due("12: thrice the least is the least, and 30 on", y.law(1, 0, MIN, 0), -99);
        due.due("12: 30 less twice the least", y.law(1, MIN, 0, 0), 30);
    }

    private static void go() {
        scene.flyers("13", (x, f) -> x.go(f));
        CatchBars x = Due.plain(0);
        x.set(2, 20);
        due.due("13: a fall right at the NET has no HARM", x.go(0), 1);
        due.due("13: FALLS", x.count(3), 1);
        due.due("13: HURT", x.count(4), 0);
        due.due("13: CATCHES", x.count(2), 0);
        x.set(2, 21);
        due.due("13: one off the NET", x.go(0), 2);
        x.set(2, 19);
        due.due("13: one off the NET, on the other side", x.go(0), 2);
        due.due("13: TICK isn't more", x.count(1), 0);
        due.due("13: GOES", x.ofFlyer(0, 3), 3);
        x.ticks(1);
        due.due("13: a catch", x.go(0), 0);
        due.due("13: HURT stays", x.count(4), 2);
        // GOES are 1 more behind a GO, not for it: neither for HARM, nor LAG, nor HOLDS.
        CatchBars y = Due.plain(30);
        due.due("13: TIRED, the first HARM", y.go(0), 11);
        due.due("13: TIRED, the second lets go a TICK later", y.go(0), 0);
        CatchBars z = Due.plain(39);
        z.set(0, 40);
        z.set(1, 1);
        z.swing(1, 1, 1);
        z.set(0, 22);
        due.due("13: OFF -1 by HOLDS 1, the first", z.go(0), 0);
        due.due("13: the second", z.go(0), 0);
        due.due("13: the third", z.go(0), 0);
        due.due("13: the fourth, by HOLDS 0", z.go(0), 14);
    }

    /** OFF 40, 0, -40, 0 and so on: at 40 either way one is CAUGHT by REACH 30 and what a KIND HOLDS more. */
    private static void caughtAtTheEdge() {
        int[][] rows = {
            // km, REACH, TICK, GAP, CAUGHT
            {49, 30, 0, 0, 1}, {49, 29, 0, 0, 0}, {48, 30, 0, 0, 0}, {49, 30, 2, 0, 1}, {49, 29, 2, 0, 0},
            {0, 30, 0, 10, 1}, {0, 29, 0, 10, 0}, {0, 30, 0, 9, 0}, {0, 30, 0, 70, 1}, {0, 29, 0, 70, 0},
            {0, 30, 0, 71, 0}, {0, 0, 0, 40, 1}, {0, 0, 0, 41, 0}, {0, 0, 0, 39, 0}, {10, 0, 0, 41, 1}, {10, 0, 0, 39, 1},
            {10, 0, 0, 42, 0}, {10, 0, 0, 38, 0}, {30, 1, 0, 41, 1}, {30, 1, 0, 42, 0}, {60, 1, 0, 39, 1}, {60, 1, 0, 38, 0},
        };
        for (int[] row : rows) {
            CatchBars x = Due.plain(row[0]);
            x.set(1, row[1]);
            if (row[2] > 0) {
                x.ticks(row[2]);
            }
            x.set(0, row[3]);
            String call = row[0] + ", REACH " + row[1] + ", TICK " + row[2] + ", GAP " + row[3];
            due.due("17: CAUGHT, " + call, x.then(0, 0, 1), row[4]);
            due.due("13: go, " + call, x.go(0) == 0 ? 1 : 0, row[4]);
            due.due("13: CATCHES, " + call, x.count(2), row[4]);
            due.due("13: FALLS, " + call, x.count(3), 1 - row[4]);
        }
    }

    private static void goesAtMost() {
        CatchBars x = Due.plain(30);
        for (int i = 1; i <= 103; i++) {
            x.go(0);
            due.due("13: GOES after " + i, x.ofFlyer(0, 3), Math.min(99, i));
        }
        due.due("13: FALLS and CATCHES go on", x.count(2) + x.count(3), 103);
        due.due("6: LAG", x.ofFlyer(0, 4), 1);
        due.due("6: HOLDS", x.ofFlyer(0, 5), 0);
        due.due("6: HARM of 10", x.ofFlyer(0, 6), 109);
        due.due("16: rest", x.rest(), 99);
        due.due("16: GOES", x.ofFlyer(0, 3), 0);
    }

    private static void hurtAtMost() {
        // Places of -60 and AIR -99, NET 299: 458 each.
        CatchBars x = Due.plain(0);
        x.swing(0, 1, 60);
        x.swing(0, 2, 2);
        Due.text(x, 1, "0-99");
        x.set(2, 299);
        for (int i = 0; i < 218; i++) {
            x.go(0);
        }
        due.due("13: HURT", x.count(4), 99844);
        x.set(2, -5);
        due.due("13: HARM 154", x.go(0), 155);
        due.due("13: HURT, one below the most", x.count(4), 99998);
        x.image();
        x.set(2, -159 + 60);
        x.swing(0, 1, 1);
        Due.text(x, 1, "0-97");
        due.due("13: HARM 1", x.go(0), 2);
        due.due("13: HURT, the most", x.count(4), 99999);
        due.due("13: HARM 1", x.go(0), 2);
        due.due("13: HURT, still the most", x.count(4), 99999);
        x.restore();
        x.set(2, 299);
        due.due("13: HARM 458", x.go(0), 459);
        due.due("13: HURT, the most and not beyond", x.count(4), 99999);
        due.due("13: FALLS", x.count(3), 220);
        due.due("15: evenings", x.evenings(1), 0);
        due.due("15: HURT, not beyond by EVENINGS", x.count(4), 99999);
        due.due("15: FALLS", x.count(3), 221);
    }

    /** As many as can be in one evening after the other: 6 times 833. */
    private static void catchesAndFalls() {
        for (int caught = 0; caught < 2; caught++) {
            CatchBars x = Due.plain();
            for (int i = 0; i < 6; i++) {
                x.flyer(0);
            }
            x.set(0, caught == 1 ? 0 : 200);
            x.set(1, 30);
            x.swing(0, 1, 1);
            x.swing(1, 1, 1);
            for (int i = 0; i < 20; i++) {
                due.due("15: CATCHES", x.evenings(40), caught * 240 * (i + 1));
            }
            due.due("15: CATCHES", x.evenings(33), caught * 4998);
            due.due("15: FALLS", x.count(3), (1 - caught) * 4998);
            due.due("15: TICK", x.count(1), 9996);
            due.due("15: one more", x.evenings(1), Due.STATE);
            due.due("16: all GOES are at most 99", x.rest(), 594);
            for (int i = 0; i < 300; i++) {
                x.go(i % 6);
            }
            due.due("13: CATCHES", x.count(2), caught * 5298);
            due.due("13: FALLS", x.count(3), (1 - caught) * 5298);
            due.due("16: rest", x.rest(), 300);
        }
    }

    /** An object at a TICK. */
    private static CatchBars at(int tick) {
        CatchBars x = Due.plain(0);
        for (int left = tick; left > 0; left -= 200) {
            x.ticks(Math.min(200, left));
        }
        return x;
    }

    private static void ticks() {
        scene.range("14: n", 1, 200, Scene::rich, (x, n) -> x.ticks(n));
        int[][] rows = {{9998, 1}, {9799, 200}, {9800, 199}, {9997, 2}};
        for (int[] row : rows) {
            due.due("14: " + row[1] + " TICKS from " + row[0], at(row[0]).ticks(row[1]), 9999);
            scene.refused("14: " + row[1] + " TICKS from " + (row[0] + 1), Due.STATE, () -> at(row[0] + 1),
                x -> x.ticks(row[1]));
        }
        due.due("14: all but one", at(9799).ticks(199), 9998);
        for (int n : new int[] {1, 2, 199, 200}) {
            scene.refused("14: " + n + " TICKS more than all", Due.STATE, Scene::full, x -> x.ticks(n));
        }
        for (int n : new int[] {0, -1, 201, MIN, MAX}) {
            scene.refused("14: BEYOND ahead of STATE, " + n, Due.BEYOND, Scene::full, x -> x.ticks(n));
        }
    }

    private static void evenings() {
        scene.range("15: n", 1, 40, Scene::rich, (x, n) -> x.evenings(n));
        for (int n : new int[] {1, 2, 39, 40}) {
            CatchBars x = at(9999 - 12 * n);
            scene.taken("15: " + n + " EVENINGS up to 9999", () -> at(9999 - 12 * n), y -> y.evenings(n));
            x.evenings(n);
            due.due("15: TICK", x.count(1), 9999);
            due.due("15: GOES", x.ofFlyer(0, 3), n);
            scene.refused("15: " + n + " EVENINGS, a TICK too late", Due.STATE, () -> at(10000 - 12 * n),
                y -> y.evenings(n));
            scene.refused("15: " + n + " EVENINGS at 9999", Due.STATE, Scene::full, y -> y.evenings(n));
        }
        scene.refused("15: with no FLYERS, too", Due.STATE, EdgesOfFlightTest::lateWithoutFlyers, x -> x.evenings(40));
        for (int n : new int[] {0, -1, 41, MIN, MAX}) {
            scene.refused("15: BEYOND ahead of STATE, " + n, Due.BEYOND, Scene::full, x -> x.evenings(n));
        }
        CatchBars x = new CatchBars();
        due.due("15: with no FLYERS", x.evenings(40), 0);
        due.due("15: TICK", x.count(1), 480);
        due.due("15: no draws", x.count(11), 1);
    }

    private static CatchBars lateWithoutFlyers() {
        CatchBars x = new CatchBars();
        for (int i = 0; i < 20; i++) {
            x.evenings(40);
        }
        return x;
    }

    /** One always falls, from 20 less 5 for each TICK that SWING 0 (PERIOD 16) is off its first BAR. */
    private static CatchBars byDraws() {
        CatchBars x = new CatchBars();
        x.flyer(0);
        x.swing(0, 0, 16);
        x.swing(0, 2, 3);
        x.set(0, 200);
        x.set(1, 0);
        x.set(2, 299);
        Due.text(x, 1, "0");
        return x;
    }

    private static int harmAt(int tick) {
        int r = (tick + 3) % 16;
        return 299 - (20 - 5 * Math.min(r, 16 - r));
    }

    /** z goes round, and what it gives has no sign: 8388608 to 16777215 where z is below 0. */
    private static void draws() {
        int[] seeds = {0, 1, -1, MIN, MAX, 12345, -12345, 1 << 30, 77, 1234567890, -987654321, 3, 5, 1000, 99999};
        int below = 0;
        for (int seed : seeds) {
            CatchBars x = byDraws();
            x.seed(seed);
            long z = seed;
            int hurt = 0;
            for (int evening = 0; evening < 5; evening++) {
                z = (z * 1103515245L + 12345) & 0xffffffffL;
                below += z > MAX ? 1 : 0;
                hurt += harmAt(12 * evening + (int) (z / 256 % 12));
                x.evenings(1);
                due.due("15: z from " + seed + ", evening " + evening, x.count(11), (int) z);
                due.due("15: HURT from " + seed + ", evening " + evening, x.count(4), hurt);
            }
        }
        due.due("15: some z are below 0", below > 20 && below < 55 ? 1 : 0, 1);
        CatchBars x = byDraws();
        x.evenings(2);
        due.due("15: z twice from 1", x.count(11), (int) (1103527590L * 1103515245L + 12345L));
    }

    private static void rest() {
        due.due("16: no FLYERS", new CatchBars().rest(), 0);
        due.due("16: none went", Scene.withFlyers(6).rest(), 0);
        CatchBars x = Scene.withFlyers(6);
        for (int f = 0; f < 6; f++) {
            for (int i = 0; i <= f; i++) {
                x.go(f);
            }
        }
        due.due("16: 1 to 6 GOES", x.rest(), 21);
        for (int f = 0; f < 6; f++) {
            due.due("16: GOES of " + f, x.ofFlyer(f, 3), 0);
        }
        due.due("16: again", x.rest(), 0);
    }
}
