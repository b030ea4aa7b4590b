/** Promises 1 to 4: a new object, swing, bar, set. */
public final class SwingsTest {
    private static final int MIN = Integer.MIN_VALUE;
    private static final int MAX = Integer.MAX_VALUE;
    private static final Due due = new Due("SwingsTest");

    public static void main(String[] args) {
        newObject();
        swing();
        bar();
        set();
        due.end();
    }

    private static void newObject() {
        CatchBars x = new CatchBars();
        int[] counts = {0, 0, 0, 0, 0, 60, 5, 30, 0, 0, 0, 1};
        for (int what = 0; what < counts.length; what++) {
            due.due("new, count(" + what + ")", x.count(what), counts[what]);
        }
        for (int k = 1; k <= 5; k++) {
            due.due("new, told(" + k + ")", x.told(k), 0);
        }
        for (int s = 0; s < 2; s++) {
            CatchBars y = new CatchBars();
            due.due("new, PERIOD", y.swing(s, 0, 40), 12);
            due.due("new, WIDTH", y.swing(s, 1, 60), 20);
            due.due("new, PHASE", y.swing(s, 2, 39), 0);
        }
        due.due("new, judge of a missing SHEET", x.judge(3), Due.NONE);
        due.due("new, no FLYER", x.go(0), Due.BEYOND);
        due.due("new, restore", x.restore(), Due.NONE);
        due.due("new, trace", x.trace(0), Due.NONE);
        due.due("new, FLIGHT", x.law(0, 2, 9, 9), 7);
        due.due("new, AIR", x.law(1, 2, 9, 9), 53);
        due.due("two objects share nothing", new CatchBars().count(5), 60);
    }

    private static void swing() {
        CatchBars x = new CatchBars();
        due.due("swing(0, 0, 4)", x.swing(0, 0, 4), 12);
        due.due("swing(0, 0, 40)", x.swing(0, 0, 40), 4);
        due.due("swing(0, 1, 1)", x.swing(0, 1, 1), 20);
        due.due("swing(0, 1, 60)", x.swing(0, 1, 60), 1);
        due.due("swing(0, 2, 39)", x.swing(0, 2, 39), 0);
        due.due("swing(0, 0, 15) with PHASE 39", x.swing(0, 0, 15), 40);
        due.due("swing(0, 2, 14): PHASE was the rest", x.swing(0, 2, 14), 9);
        due.due("swing(0, 0, 16): PHASE fits", x.swing(0, 0, 16), 15);
        due.due("swing(0, 2, 0)", x.swing(0, 2, 0), 14);
        due.due("swing(1, 1, 7): the other one", x.swing(1, 1, 7), 20);
        due.due("swing(1, 1, 7): as it was", x.swing(1, 1, 7), 7);
        due.dueForAll("swing", Due.BEYOND, s -> x.swing(s, 1, 9), -1, 2, MIN, MAX);
        due.dueForAll("swing's what", Due.BEYOND, w -> x.swing(0, w, 9), -1, 3, MIN, MAX);
        due.dueForAll("PERIOD", Due.BEYOND, v -> x.swing(0, 0, v), 3, 41, 0, -4, MIN, MAX);
        due.dueForAll("WIDTH", Due.BEYOND, v -> x.swing(0, 1, v), 0, 61, -1, MIN, MAX);
        due.dueForAll("PHASE", Due.BEYOND, v -> x.swing(0, 2, v), -1, 16, MIN, MAX);
        due.due("PERIOD after ERRORS", x.swing(0, 0, 16), 16);
        due.due("WIDTH after ERRORS", x.swing(0, 1, 60), 60);
        due.due("PHASE after ERRORS", x.swing(0, 2, 0), 0);
        due.due("told(1)", x.told(1), 4 + 4 + 6 + 5 + 4);
    }

    private static void bar() {
        CatchBars x = new CatchBars();
        int[] of12 = {20, 13, 6, 0, -7, -14, -20, -14, -7, 0, 6, 13, 20};
        for (int t = 0; t < of12.length; t++) {
            due.due("bar(1, " + t + ")", x.bar(1, t), of12[t]);
        }
        x.swing(0, 0, 5);
        x.swing(0, 1, 7);
        x.swing(0, 2, 3);
        // PERIOD 5: d is 5, 3, 1, 1, 3 and twice 7 by it and 5: 14, 8, 2, 2, 8; PHASE 3 begins at the fourth.
        int[] of5 = {-5, 1, 7, 1, -5, -5, 1};
        for (int t = 0; t < of5.length; t++) {
            due.due("PERIOD 5, bar(0, " + t + ")", x.bar(0, t), of5[t]);
        }
        due.due("bar(0, 19999)", x.bar(0, 19999), -5);
        x.swing(0, 0, 40);
        x.swing(0, 1, 60);
        due.due("PERIOD 40, bar(0, 0)", x.bar(0, 0), 120 * 34 / 40 - 60);
        due.due("PERIOD 40, bar(0, 17)", x.bar(0, 17), -60);
        due.dueForAll("bar's swing", Due.BEYOND, s -> x.bar(s, 0), -1, 2, MIN, MAX);
        due.dueForAll("bar's tick", Due.BEYOND, t -> x.bar(0, t), -1, 20000, MIN, MAX);
    }

    private static void set() {
        CatchBars x = new CatchBars();
        due.due("set(0, 0)", x.set(0, 0), 60);
        due.due("set(0, 200)", x.set(0, 200), 0);
        due.due("set(1, 0)", x.set(1, 0), 5);
        due.due("set(1, 30)", x.set(1, 30), 0);
        due.due("set(2, -99)", x.set(2, -99), 30);
        due.due("set(2, 299)", x.set(2, 299), -99);
        due.dueForAll("set's what", Due.BEYOND, w -> x.set(w, 5), -1, 3, MIN, MAX);
        due.dueForAll("GAP", Due.BEYOND, v -> x.set(0, v), -1, 201, MIN, MAX);
        due.dueForAll("REACH", Due.BEYOND, v -> x.set(1, v), -1, 31, MIN, MAX);
        due.dueForAll("NET", Due.BEYOND, v -> x.set(2, v), -100, 300, MIN, MAX);
        due.due("count(5)", x.count(5), 200);
        due.due("count(6)", x.count(6), 30);
        due.due("count(7)", x.count(7), 299);
    }
}
