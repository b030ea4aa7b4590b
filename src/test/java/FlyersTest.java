/** Promises 5 to 9: flyer, ofFlyer, become, as, turn. */
public final class FlyersTest {
    private static final int MIN = Integer.MIN_VALUE;
    private static final int MAX = Integer.MAX_VALUE;
    private static final Due due = new Due("FlyersTest");

    public static void main(String[] args) {
        flyer();
        ofFlyer();
        goesOfKinds();
        become();
        as();
        turn();
        due.end();
    }

    private static void flyer() {
        CatchBars x = new CatchBars();
        due.dueForAll("flyer", Due.BEYOND, km -> x.flyer(km), -1, 70, MIN, MAX);
        due.due("no FLYER yet", x.count(0), 0);
        int[] kms = {0, 69, 13, 27, 38, 45};
        for (int i = 0; i < kms.length; i++) {
            due.due("flyer(" + kms[i] + ")", x.flyer(kms[i]), i);
            due.due("count(0)", x.count(0), i + 1);
        }
        due.due("a seventh", x.flyer(9), Due.FULL);
        due.due("a seventh of no KIND", x.flyer(70), Due.BEYOND);
        due.due("count(0)", x.count(0), 6);
        for (int i = 0; i < kms.length; i++) {
            due.due("KIND of " + i, x.ofFlyer(i, 0), kms[i] / 10);
            due.due("m of " + i, x.ofFlyer(i, 1), kms[i] % 10);
            due.due("TURNS of " + i, x.ofFlyer(i, 2), 1);
            due.due("GOES of " + i, x.ofFlyer(i, 3), 0);
        }
    }

    private static void ofFlyer() {
        CatchBars x = new CatchBars();
        x.flyer(0);
        // For each KIND and m of 0, 5, 9: LAG, HOLDS of REACH 5, HARM of 10, with GOES 0.
        int[][] rows = {
            {0, 0, 5, 10}, {5, 0, 5, 10}, {9, 0, 5, 10},
            {10, 0, 6, 10}, {15, 0, 6, 10}, {19, 0, 6, 10},
            {20, 1, 5, 10}, {25, 3, 5, 10}, {29, 1, 5, 10}, {24, 2, 5, 10},
            {30, 0, 5, 10}, {35, 0, 5, 10}, {39, 0, 5, 10},
            {40, 0, 6, 10}, {45, 0, 11, 10}, {49, 0, 15, 10},
            {50, 0, 5, 10}, {55, 2, 5, 10}, {59, 0, 5, 10}, {54, 1, 5, 10},
            {60, 0, 5, 5}, {65, 0, 5, 5}, {69, 0, 5, 5},
        };
        for (int[] row : rows) {
            x.become(0, row[0]);
            due.due("LAG of " + row[0], x.ofFlyer(0, 4), row[1]);
            due.due("HOLDS of " + row[0], x.ofFlyer(0, 5), row[2]);
            due.due("HARM of " + row[0], x.ofFlyer(0, 6), row[3]);
        }
        x.set(1, 30);
        x.become(0, 49);
        due.due("HOLDS of REACH 30, CORRECTED", x.ofFlyer(0, 5), 40);
        x.set(1, 0);
        x.become(0, 10);
        due.due("HOLDS of REACH 0, TIMED", x.ofFlyer(0, 5), 1);
        due.dueForAll("ofFlyer's flyer", Due.BEYOND, f -> x.ofFlyer(f, 0), -1, 1, 6, MIN, MAX);
        due.dueForAll("ofFlyer's what", Due.BEYOND, w -> x.ofFlyer(0, w), -1, 7, MIN, MAX);
    }

    /** What GOES do to those who tire, and to no one else. */
    private static void goesOfKinds() {
        CatchBars x = new CatchBars();
        x.flyer(0);
        for (int i = 0; i < 7; i++) {
            x.go(0);
        }
        int[][] rows = {
            {0, 0, 5, 10}, {16, 0, 6, 10}, {26, 1, 5, 10}, {43, 0, 9, 10}, {56, 0, 5, 10},
            {36, 1, 3, 17}, {37, 0, 3, 17}, {38, 0, 3, 17},
            {66, 1, 3, 8}, {67, 0, 3, 8}, {60, 1, 3, 8},
        };
        for (int[] row : rows) {
            x.become(0, row[0]);
            due.due("GOES 7, LAG of " + row[0], x.ofFlyer(0, 4), row[1]);
            due.due("GOES 7, HOLDS of " + row[0], x.ofFlyer(0, 5), row[2]);
            due.due("GOES 7, HARM of " + row[0], x.ofFlyer(0, 6), row[3]);
        }
        x.set(1, 2);
        x.become(0, 30);
        due.due("HOLDS of REACH 2 less 2", x.ofFlyer(0, 5), 0);
        x.set(1, 1);
        due.due("HOLDS are never below 0", x.ofFlyer(0, 5), 0);
        x.become(0, 60);
        due.due("NETTED's HOLDS neither", x.ofFlyer(0, 5), 0);
    }

    private static void become() {
        CatchBars x = new CatchBars();
        x.flyer(23);
        x.turn(0, 3);
        x.go(0);
        due.due("become(0, 69)", x.become(0, 69), 2);
        due.due("KIND", x.ofFlyer(0, 0), 6);
        due.due("m", x.ofFlyer(0, 1), 9);
        due.due("TURNS stay", x.ofFlyer(0, 2), 3);
        due.due("GOES stay", x.ofFlyer(0, 3), 1);
        due.due("become(0, 0)", x.become(0, 0), 6);
        due.due("become(0, 1)", x.become(0, 1), 0);
        due.dueForAll("become's flyer", Due.BEYOND, f -> x.become(f, 5), -1, 1, MIN, MAX);
        due.dueForAll("become's km", Due.BEYOND, km -> x.become(0, km), -1, 70, MIN, MAX);
        due.due("m after ERRORS", x.ofFlyer(0, 1), 1);
    }

    private static void as() {
        // For each KIND those that it is.
        int[][] is = {{0}, {0, 1}, {0, 2}, {0, 3}, {0, 1, 4}, {0, 2, 5}, {0, 3, 6}};
        CatchBars x = new CatchBars();
        x.flyer(0);
        for (int kind = 0; kind < 7; kind++) {
            x.become(0, kind * 10 + 7);
            boolean[] isIt = new boolean[7];
            for (int k : is[kind]) {
                isIt[k] = true;
            }
            for (int k = 0; k < 7; k++) {
                due.due("KIND " + kind + " as " + k, x.as(0, k), isIt[k] ? 7 : Due.KIND);
            }
        }
        due.dueForAll("as' flyer", Due.BEYOND, f -> x.as(f, 0), -1, 1, MIN, MAX);
        due.dueForAll("as' kind", Due.BEYOND, k -> x.as(0, k), -1, 7, MIN, MAX);
        due.due("told(5)", x.told(5), 49 - 1 - 3 * 2 - 3 * 3);
    }

    private static void turn() {
        CatchBars x = new CatchBars();
        x.flyer(0);
        x.flyer(0);
        due.due("turn(0, 3)", x.turn(0, 3), 1);
        due.due("turn(0, 2)", x.turn(0, 2), 3);
        due.due("turn(0, 1)", x.turn(0, 1), 2);
        due.due("turn(1, 2)", x.turn(1, 2), 1);
        due.dueForAll("turn's flyer", Due.BEYOND, f -> x.turn(f, 1), -1, 2, MIN, MAX);
        due.dueForAll("TURNS", Due.BEYOND, k -> x.turn(1, k), 0, 4, MIN, MAX);
        due.due("TURNS after ERRORS", x.ofFlyer(1, 2), 2);
        due.due("TURNS of the other", x.ofFlyer(0, 2), 1);
    }
}
