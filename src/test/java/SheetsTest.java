/** Promises 31 to 35: sheet, put, move, turns, judge. */
public final class SheetsTest {
    private static final int MIN = Integer.MIN_VALUE;
    private static final int MAX = Integer.MAX_VALUE;
    private static final Due due = new Due("SheetsTest");

    public static void main(String[] args) {
        sheet();
        put();
        bits();
        move();
        moveErrors();
        turns();
        judge();
        due.end();
    }

    private static void sheet() {
        CatchBars x = new CatchBars();
        for (int bits : new int[] {8, 16, 32}) {
            due.due("sheet(0, " + bits + ", 0)", x.sheet(0, bits, 0), 1);
            due.due("no number 0", x.put(0, 0, 1), Due.BEYOND);
            due.due("sheet(0, " + bits + ", 40)", x.sheet(0, bits, 40), 1);
            due.due("number 39", x.put(0, 39, 1), 1);
            due.due("no number 40", x.put(0, 40, 1), Due.BEYOND);
            due.due("too many", x.sheet(0, bits, 41), Due.BEYOND);
            due.due("too many", x.sheet(0, bits, MAX), Due.BEYOND);
            due.due("below 0", x.sheet(0, bits, -1), Due.STATE);
            due.due("below 0", x.sheet(0, bits, MIN), Due.STATE);
            due.due("number 39 stands", x.put(0, 39, 1), 1);
        }
        due.dueForAll("sheet", Due.BEYOND, s -> x.sheet(s, 8, 1), -1, 4, MIN, MAX);
        due.dueForAll("sheet", Due.BEYOND, s -> x.sheet(s, 8, -1), -1, 4, MIN, MAX);
        due.dueForAll("bits", Due.BEYOND, b -> x.sheet(0, b, 1), -1, 1, 7, 9, 15, 24, 31, 33, 64, -8, MIN, MAX);
        due.dueForAll("bits", Due.BEYOND, b -> x.sheet(0, b, -1), -1, 1, 64);
        due.due("number 39 stands", x.put(0, 39, 1), 1);
        for (int n : new int[] {0, -1, 41, MIN, MAX}) {
            x.sheet(0, 8, 1);
            due.due("missing, n " + n, x.sheet(0, 0, n), 1);
            due.due("put", x.put(0, 0, 0), Due.NONE);
        }
        due.due("sheet(3, 0, 0), missing already", x.sheet(3, 0, 0), 1);
        // A new one has only zeros: all GOES are.
        for (int i = 0; i < 6; i++) {
            x.flyer(0);
        }
        Due.fill(x, 1, 32, 1, 2, 3, 4, 5, 6);
        due.due("judge", x.judge(1), 0);
        x.sheet(1, 32, 6);
        due.due("judge of a new one", x.judge(1), -1);
    }

    private static void put() {
        CatchBars x = new CatchBars();
        due.due("missing", x.put(0, 0, 5), Due.NONE);
        due.due("missing, and no such number", x.put(0, -1, 5), Due.NONE);
        due.dueForAll("put's sheet", Due.BEYOND, s -> x.put(s, 0, 5), -1, 4, MIN, MAX);
        x.sheet(0, 8, 3);
        due.dueForAll("put's i", Due.BEYOND, i -> x.put(0, i, 5), -1, 3, 39, 40, MIN, MAX);
        due.due("put(0, 0, 5)", x.put(0, 0, 5), 1);
        due.due("put(0, 2, MIN)", x.put(0, 2, MIN), 1);
    }

    /**
     * A number as it stands is seen where a FLYER's OFF is the same: at TICK 1 it is what AIR tells,
     * with PHASES 0 and 2 of a SWING 1 that is 1 wide.
     */
    private static void bits() {
        int[][] rows = {
            // bits, v, what AIR tells, the least PHASE
            {8, 5, 5, 0}, {8, -5, -5, 0}, {8, 256 + 7, 7, 0}, {8, 255, -1, 0}, {8, 200, -56, 0}, {8, -200, 56, 0},
            {8, MIN, 0, 0}, {8, MAX, -1, 0}, {8, -129, 99, Due.NONE}, {8, 5, 3, Due.NONE},
            {16, 65536 + 9, 9, 0}, {16, 65535, -1, 0}, {16, -65536 - 8, -8, 0}, {16, 65480, -56, 0},
            {16, 256 + 7, 7, Due.NONE}, {16, 200, -56, Due.NONE},
            {32, 77, 77, 0}, {32, -77, -77, 0}, {32, 65536 + 9, 9, Due.NONE}, {32, 65480, -56, Due.NONE},
        };
        for (int[] row : rows) {
            CatchBars x = Due.plain(0);
            x.ticks(1);
            x.swing(1, 1, 1);
            Due.text(x, 1, row[2] < 0 ? "0-" + -row[2] : "" + row[2]);
            Due.fill(x, 2, row[0], row[1]);
            due.due(row[1] + " in " + row[0] + " bits as " + row[2], x.phases(0, 2, 0), row[3]);
        }
    }

    private static void move() {
        CatchBars x = new CatchBars();
        for (int i = 0; i < 6; i++) {
            x.flyer(0);
        }
        Due.fill(x, 0, 8, 1, 2, 3, 1, 2, 3);
        Due.fill(x, 1, 8, 3, 3, 3, 3, 3, 3);
        due.due("move(0, 1, 1, 2, 2)", x.move(0, 1, 1, 2, 2), 2);
        dueTurns(x, 1, 3, 3, 2, 3, 3, 3);
        dueTurns(x, 0, 1, 2, 3, 1, 2, 3);
        due.due("all of them", x.move(0, 0, 1, 0, 6), 6);
        dueTurns(x, 1, 1, 2, 3, 1, 2, 3);
        due.due("in itself, on", x.move(0, 0, 0, 1, 5), 5);
        dueTurns(x, 0, 1, 1, 2, 3, 1, 2);
        due.due("in itself, back", x.move(1, 1, 1, 0, 5), 5);
        dueTurns(x, 1, 2, 3, 1, 2, 3, 3);
        due.due("none", x.move(0, 6, 1, 6, 0), 0);
        due.due("none", x.move(0, 0, 1, 0, 0), 0);
        due.due("in itself, where it stands", x.move(1, 0, 1, 0, 6), 6);
        dueTurns(x, 1, 2, 3, 1, 2, 3, 3);
        Due.fill(x, 2, 8, 1);
        due.due("from a short one", x.move(2, 0, 1, 5, 1), 1);
        dueTurns(x, 1, 2, 3, 1, 2, 3, 1);
        for (int bits : new int[] {16, 32}) {
            Due.fill(x, 2, bits, 3, 1);
            Due.fill(x, 3, bits, 1, 1, 1, 1, 1, 1);
            due.due("of " + bits + " bits", x.move(2, 0, 3, 4, 2), 2);
            dueTurns(x, 3, 1, 1, 1, 1, 3, 1);
        }
    }

    private static void dueTurns(CatchBars x, int sheet, int... turns) {
        due.due("turns(" + sheet + ")", x.turns(sheet), turns.length);
        for (int i = 0; i < turns.length; i++) {
            due.due("number " + i + " of SHEET " + sheet, x.ofFlyer(i, 2), turns[i]);
        }
    }

    private static void moveErrors() {
        CatchBars x = new CatchBars();
        x.sheet(0, 8, 4);
        x.sheet(1, 8, 6);
        x.sheet(2, 16, 4);
        due.dueForAll("move's sheet", Due.BEYOND, s -> x.move(s, 0, 3, 0, 1), -1, 4, MIN, MAX);
        due.dueForAll("move's other", Due.BEYOND, s -> x.move(3, 0, s, 0, 1), -1, 4, MIN, MAX);
        due.due("from a missing one", x.move(3, 0, 2, 0, 1), Due.NONE);
        due.due("to a missing one", x.move(2, 0, 3, 0, 1), Due.NONE);
        due.due("in a missing one", x.move(3, 0, 3, 0, -1), Due.NONE);
        due.due("unlike bits", x.move(0, 0, 2, 0, 1), Due.KIND);
        due.due("unlike bits, the other way", x.move(2, 0, 0, 0, 1), Due.KIND);
        due.due("unlike bits ahead of places", x.move(2, -1, 0, 0, 99), Due.KIND);
        due.dueForAll("move's i", Due.BEYOND, i -> x.move(0, i, 1, 0, 1), -1, 4, MIN, MAX);
        due.dueForAll("move's j", Due.BEYOND, j -> x.move(0, 0, 1, j, 1), -1, 6, MIN, MAX);
        due.dueForAll("move's n", Due.BEYOND, n -> x.move(0, 0, 1, 0, n), -1, 5, MIN, MAX);
        due.dueForAll("move's n", Due.BEYOND, n -> x.move(1, 0, 0, 0, n), -1, 5, 6, MIN, MAX);
        due.dueForAll("none, from where none stand", Due.BEYOND, i -> x.move(0, i, 1, 0, 0), -1, 5, MIN, MAX);
        due.dueForAll("none, to where none stand", Due.BEYOND, j -> x.move(0, 0, 1, j, 0), -1, 7, MIN, MAX);
        due.due("i and n wrap", x.move(1, MAX, 1, 0, MAX), Due.BEYOND);
        due.due("j and n wrap", x.move(1, 0, 1, MAX, MAX), Due.BEYOND);
        due.due("told(2)", x.told(2), 3);
        due.due("told(5)", x.told(5), 3);
    }

    private static void turns() {
        CatchBars x = new CatchBars();
        due.dueForAll("turns", Due.BEYOND, s -> x.turns(s), -1, 4, MIN, MAX);
        due.due("turns of a missing one", x.turns(0), Due.NONE);
        Due.fill(x, 0, 8, 2, 3);
        due.due("no FLYERS", x.turns(0), 0);
        x.flyer(0);
        due.due("one FLYER", x.turns(0), 1);
        due.due("its TURNS", x.ofFlyer(0, 2), 2);
        x.flyer(0);
        x.flyer(0);
        due.due("three FLYERS", x.turns(0), 2);
        due.due("TURNS of 1", x.ofFlyer(1, 2), 3);
        due.due("TURNS of 2", x.ofFlyer(2, 2), 1);
        for (int wrong : new int[] {0, 4, -1, 127}) {
            x.turn(0, 1);
            x.turn(1, 1);
            x.turn(2, 1);
            Due.fill(x, 1, 8, 3, wrong, 2);
            due.due("up to " + wrong, x.turns(1), 1);
            due.due("TURNS of 0", x.ofFlyer(0, 2), 3);
            due.due("TURNS of 1", x.ofFlyer(1, 2), 1);
            due.due("TURNS of 2", x.ofFlyer(2, 2), 1);
        }
        x.sheet(2, 32, 0);
        due.due("an empty one", x.turns(2), 0);
        Due.fill(x, 2, 8, 256 + 2);
        due.due("the lowest bits", x.turns(2), 1);
        due.due("TURNS of 0", x.ofFlyer(0, 2), 2);
        due.due("told(1)", x.told(1), 4);
        due.due("told(2)", x.told(2), 1);
    }

    private static void judge() {
        CatchBars x = new CatchBars();
        due.dueForAll("judge", Due.BEYOND, s -> x.judge(s), -1, 4, MIN, MAX);
        due.due("judge of a missing one", x.judge(0), Due.NONE);
        x.sheet(0, 16, 0);
        due.due("no FLYERS, no numbers", x.judge(0), -1);
        x.sheet(0, 16, 1);
        due.due("no FLYERS, one number", x.judge(0), 0);
        x.flyer(0);
        x.flyer(0);
        x.flyer(0);
        x.go(1);
        x.go(2);
        x.go(2);
        Due.fill(x, 0, 8, 0, 1, 2);
        due.due("all are", x.judge(0), -1);
        Due.fill(x, 0, 8, 0, 1);
        due.due("one lacks", x.judge(0), 2);
        Due.fill(x, 0, 8, 0, 1, 2, 0);
        due.due("one is too many", x.judge(0), 3);
        Due.fill(x, 0, 8, 0, 2, 1);
        due.due("the first that isn't so", x.judge(0), 1);
        Due.fill(x, 0, 8, 1, 1);
        due.due("the first, though one lacks", x.judge(0), 0);
        Due.fill(x, 0, 8);
        due.due("all lack", x.judge(0), 0);
        due.due("told(1)", x.told(1), 4);
        due.due("told(2)", x.told(2), 1);
    }
}
