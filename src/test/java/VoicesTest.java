/** Promises 28 to 30: seed, voice, trace. */
public final class VoicesTest {
    private static final int MIN = Integer.MIN_VALUE;
    private static final int MAX = Integer.MAX_VALUE;
    private static final Due due = new Due("VoicesTest");

    public static void main(String[] args) {
        seed();
        voices();
        wrap();
        trace();
        due.end();
    }

    private static void seed() {
        CatchBars x = new CatchBars();
        due.due("seed(0)", x.seed(0), 1);
        due.due("seed(MIN)", x.seed(MIN), 0);
        due.due("seed(MAX)", x.seed(MAX), MIN);
        due.due("seed(NONE)", x.seed(Due.NONE), MAX);
        due.due("seed(5): what it was may look like an ERROR", x.seed(5), Due.NONE);
        due.due("count(11)", x.count(11), 5);
        for (int k = 1; k <= 5; k++) {
            due.due("told(" + k + ")", x.told(k), 0);
        }
        CatchBars y = Due.plain(0);
        y.seed(-1);
        y.evenings(1);
        due.due("z from -1", y.count(11), -1103515245 + 12345);
    }

    /** FLYER 3, m 5, x 7: for each KIND what it answers to each act, and THE TRACE. */
    private static void voices() {
        int[][][] rows = {
            {{10}, {20}, {2}, {22}},
            {{30}, {60}, {2}, {62}},
            {{10}, {24}, {2}, {26}},
            {{10}, {20}, {-2}, {-22}},
            {{30}, {60}, {2}, {47}},
            {{10}, {26}, {2}, {24}},
            {{10}, {20}, {-3}, {43}},
        };
        int[][][] traces = {
            {{10}, {11, 10}, {12}, {13, 11, 10, 12}},
            {{20, 10}, {11, 20, 10}, {12}, {13, 11, 20, 10, 12}},
            {{10}, {30, 11, 10, 12}, {12}, {13, 30, 11, 10, 12, 12}},
            {{10}, {11, 10}, {40, 12}, {13, 11, 10, 40, 12}},
            {{20, 10}, {11, 20, 10}, {12}, {50, 13, 11, 20, 10, 12, 20, 10}},
            {{10}, {60, 30, 11, 10, 12}, {12}, {13, 60, 30, 11, 10, 12, 12}},
            {{10}, {11, 10}, {70, 40, 12}, {71, 11, 10, 13, 11, 10, 70, 40, 12}},
        };
        CatchBars x = new CatchBars();
        for (int i = 0; i < 4; i++) {
            x.flyer(0);
        }
        for (int kind = 0; kind < 7; kind++) {
            x.become(3, kind * 10 + 5);
            for (int act = 0; act < 4; act++) {
                String call = "KIND " + kind + ", voice(3, " + act + ", 7)";
                due.due(call, x.voice(3, act, 7), rows[kind][act][0]);
                int[] bodies = traces[kind][act];
                due.due(call + ", count(10)", x.count(10), bodies.length);
                for (int i = 0; i < bodies.length; i++) {
                    due.due(call + ", trace(" + i + ")", x.trace(i), bodies[i]);
                }
            }
        }
    }

    private static void wrap() {
        CatchBars x = new CatchBars();
        x.flyer(0);
        x.flyer(1);
        due.due("swings wrap", x.voice(1, 0, MAX), MIN);
        due.due("flies wrap", x.voice(1, 1, 1 << 30), 2 - (1 << 31));
        due.due("falls wrap", x.voice(1, 2, MIN), MAX);
        x.become(0, 15);
        due.due("TIMED swings wrap", x.voice(0, 0, 1 << 30), 3 * (1 << 30));
        x.become(0, 31);
        due.due("less the least int", x.voice(0, 2, MIN + 1), MIN);
        x.become(0, 50);
        due.due("HUP flies: x and 1 wraps", x.voice(0, 1, MAX), -1);
        x.become(0, 0);
        due.due("looks like an ERROR", x.voice(0, 2, Due.BEYOND), Due.BEYOND);
        due.due("told(1)", x.told(1), 0);
    }

    private static void trace() {
        CatchBars x = new CatchBars();
        x.flyer(60);
        due.dueForAll("trace of none", Due.NONE, i -> x.trace(i), 0, -1, 40, MIN, MAX);
        x.voice(0, 3, 1);
        due.due("trace(8)", x.trace(8), 12);
        due.dueForAll("trace", Due.NONE, i -> x.trace(i), -1, 9, 39, 40, MIN, MAX);
        due.dueForAll("voice's flyer", Due.BEYOND, f -> x.voice(f, 0, 0), -1, 1, MIN, MAX);
        due.dueForAll("voice's act", Due.BEYOND, a -> x.voice(0, a, 0), -1, 4, MIN, MAX);
        due.due("THE TRACE stays by ERRORS", x.count(10), 9);
        due.due("trace(0)", x.trace(0), 71);
        x.voice(0, 0, 1);
        due.due("in place of it", x.count(10), 1);
        due.due("trace(0)", x.trace(0), 10);
        due.due("trace(1)", x.trace(1), Due.NONE);
        due.due("told(1)", x.told(1), 8);
        due.due("told(2)", x.told(2), 12);
    }
}
