import java.util.function.Supplier;

/** The edges that the document names, promise by promise: 28 to 41. */
public final class EdgesOfSheetsTest {
    private static final int MIN = Integer.MIN_VALUE;
    private static final int MAX = Integer.MAX_VALUE;
    private static final Due due = new Due("EdgesOfSheetsTest");
    private static final Scene scene = new Scene(due);

    public static void main(String[] args) {
        seed();
        voice();
        voicesGoRound();
        trace();
        sheet();
        sheetIsMadeAnew();
        put();
        putLowestBits();
        moveErrors();
        movePlaces();
        moveAsTheyAllWere();
        turns();
        judge();
        imageOfNothing();
        imageOfAll();
        imagesFollow();
        notInTheImage();
        tell();
        check();
        count();
        told();
        toldManyTimes();
        due.end();
    }

    private static void seed() {
        CatchBars x = Scene.rich();
        int was = -77;
        int[] numbers = {
            0, 1, -1, MIN, MAX, MIN + 1, Due.LOW, Due.BEYOND, Due.NONE, Due.STATE, Due.FULL, Due.KIND, Due.LOW - 6,
        };
        int[] told = new int[6];
        for (int k = 1; k <= 5; k++) {
            told[k] = x.told(k);
        }
        for (int v : numbers) {
            due.due("28: seed(" + v + ")", x.seed(v), was);
            due.due("28: count(11)", x.count(11), v);
            was = v;
        }
        due.due("28: what it was in the end", x.seed(1), Due.LOW - 6);
        for (int k = 1; k <= 5; k++) {
            due.due("28: what looks like an ERROR is none, told(" + k + ")", x.told(k), told[k]);
        }
    }

    private static void voice() {
        scene.flyers("29", (x, f) -> x.voice(f, 0, 7));
        scene.range("29: act", 0, 3, Scene::rich, (x, act) -> x.voice(5, act, 7));
        for (int x0 : new int[] {MIN, MAX, 0}) {
            scene.refused("29: no such FLYER, " + x0, Due.BEYOND, Scene::rich, x -> x.voice(6, 0, x0));
            scene.refused("29: no such act, " + x0, Due.BEYOND, Scene::rich, x -> x.voice(5, 4, x0));
        }
    }

    /** What a KIND answers by numbers that are wide enough not to go round, cut in the end. */
    private static final class Wide {
        final int kind;
        final long n;
        final long m;

        Wide(int kind, int n, int m) {
            this.kind = kind;
            this.n = n;
            this.m = m;
        }

        long swings(long x) {
            return (x + n) * (kind == 1 || kind == 4 ? 3 : 1);
        }

        long flies(long x) {
            switch (kind) {
                case 2: return swings(x) * 2 - falls(1);
                case 5: return swings(x + 1) * 2 - falls(1);
                default: return swings(x) * 2;
            }
        }

        long falls(long x) {
            return kind == 3 ? m - x : kind == 6 ? m - x ^ n : x - m;
        }

        long tells(long x) {
            long first = flies(x) ^ falls(x);
            return kind == 4 ? first - swings(2) : kind == 6 ? flies(x) - first : first;
        }

        int of(int act, long x) {
            return (int) (act == 0 ? swings(x) : act == 1 ? flies(x) : act == 2 ? falls(x) : tells(x));
        }
    }

    private static void voicesGoRound() {
        int[] xs = {MIN, MIN + 1, MIN + 9, MAX, MAX - 1, MAX - 5, 1 << 30, -(1 << 30), 0, 1, -1, Due.BEYOND, 5};
        for (int kind = 0; kind < 7; kind++) {
            for (int m = 0; m <= 9; m += 9) {
                for (int act = 0; act < 4; act++) {
                    CatchBars x = Scene.rich();
                    int errors = x.told(1);
                    for (int f = 0; f < 6; f++) {
                        x.become(f, kind * 10 + m);
                        for (int v : xs) {
                            due.due("29: KIND " + kind + ", m " + m + ", voice(" + f + ", " + act + ", " + v + ")",
                                x.voice(f, act, v), new Wide(kind, f, m).of(act, v));
                        }
                    }
                    due.due("29: no ERRORS", x.told(1), errors);
                }
            }
        }
    }

    private static CatchBars spoken(int km, int act) {
        CatchBars x = new CatchBars();
        x.flyer(km);
        x.voice(0, act, 3);
        return x;
    }

    private static void trace() {
        for (int i : new int[] {0, -1, 1, 39, 40, MIN, MAX}) {
            scene.refused("30: no voice yet, " + i, Due.NONE, CatchBars::new, x -> x.trace(i));
        }
        int[][] rows = {
            // km, act, how many, the first, the last
            {0, 0, 1, 10, 10}, {0, 1, 2, 11, 10}, {0, 2, 1, 12, 12}, {0, 3, 4, 13, 12}, {10, 0, 2, 20, 10}, {20, 1, 4, 30, 12},
            {30, 2, 2, 40, 12}, {40, 3, 8, 50, 10}, {50, 1, 5, 60, 12}, {50, 3, 7, 13, 12}, {60, 2, 3, 70, 12},
            {60, 3, 9, 71, 12},
        };
        for (int[] row : rows) {
            Supplier<CatchBars> maker = () -> spoken(row[0], row[1]);
            String call = "30: THE TRACE of " + row[0] + ", act " + row[1];
            due.due(call + ", count(10)", maker.get().count(10), row[2]);
            due.due(call + ", the first", maker.get().trace(0), row[3]);
            due.due(call + ", the last", maker.get().trace(row[2] - 1), row[4]);
            for (int i : new int[] {row[2], -1, 40, MIN, MAX}) {
                scene.refused(call + ", " + i, Due.NONE, maker, x -> x.trace(i));
            }
        }
        // The latest voice() alone, a shorter one behind a longer one, too.
        CatchBars x = spoken(60, 3);
        x.voice(0, 2, 1);
        due.due("30: count(10)", x.count(10), 3);
        due.due("30: trace(2)", x.trace(2), 12);
        due.due("30: what was the fourth", x.trace(3), Due.NONE);
        x.voice(1, 0, 1);
        x.voice(0, 4, 1);
        due.due("30: an ERROR leaves it", x.count(10), 3);
        x.become(0, 0);
        due.due("30: what one becomes leaves it", x.trace(0), 70);
    }

    private static void sheet() {
        for (int bits : new int[] {8, 16, 32}) {
            for (int s : new int[] {0, 3}) {
                for (int n : new int[] {0, 1, 39, 40}) {
                    scene.taken("31: " + n + " numbers of " + bits + " bits", Scene::rich, x -> x.sheet(s, bits, n));
                }
                for (int n : new int[] {41, 42, 99, MAX}) {
                    scene.refused("31: too many, " + n, Due.BEYOND, Scene::rich, x -> x.sheet(s, bits, n));
                }
                for (int n : new int[] {-1, -2, -40, -41, MIN}) {
                    scene.refused("31: below 0, " + n, Due.STATE, Scene::rich, x -> x.sheet(s, bits, n));
                }
            }
            scene.range("31: SHEET", 0, 3, Scene::rich, (x, s) -> x.sheet(s, bits, 1));
        }
        scene.range("31: SHEET", 0, 3, Scene::rich, (x, s) -> x.sheet(s, 0, 1));
        for (int s : new int[] {-1, 4, MIN, MAX}) {
            for (int n : new int[] {-1, MIN, 41, MAX, 0}) {
                scene.refused("31: no such SHEET, n " + n, Due.BEYOND, Scene::rich, x -> x.sheet(s, 8, n));
                scene.refused("31: no such SHEET, 0 bits, n " + n, Due.BEYOND, Scene::rich, x -> x.sheet(s, 0, n));
            }
        }
        for (int bits : new int[] {-1, 1, 7, 9, 15, 17, 24, 31, 33, 64, -8, MIN, MAX}) {
            for (int n : new int[] {1, -1, 41}) {
                scene.refused("31: " + bits + " bits, n " + n, Due.BEYOND, Scene::rich, x -> x.sheet(0, bits, n));
            }
        }
        for (int n : new int[] {0, 1, 40, 41, -1, MIN, MAX}) {
            CatchBars x = Scene.rich();
            due.due("31: 0 bits, n " + n, x.sheet(0, 0, n), 1);
            due.due("31: it is missing", x.put(0, 0, 0), Due.NONE);
            due.due("31: 0 bits again, n " + n, x.sheet(0, 0, n), 1);
            due.due("31: no STATE is told", x.told(3), 1);
        }
    }

    /** OFF is 0 at all TICKS and with all LAGS: late() tells whether all numbers of a SHEET are 0. */
    private static CatchBars zeros() {
        CatchBars x = Due.plain(0);
        Due.text(x, 0, "2");
        return x;
    }

    private static void dueZeros(CatchBars x, String call, int sheet, boolean are) {
        due.due(call, x.late(0, sheet), are ? 0 : Due.NONE);
    }

    private static void sheetIsMadeAnew() {
        CatchBars x = zeros();
        for (int bits : new int[] {8, 16, 32}) {
            for (int n : new int[] {1, 2, 39, 40}) {
                x = zeros();
                due.due("31: " + n + " numbers", x.sheet(1, bits, n), 1);
                dueZeros(x, "31: all of " + n + " are 0", 1, true);
                for (int i = 0; i < n; i++) {
                    x.put(1, i, -1);
                }
                dueZeros(x, "31: none of " + n + " is 0", 1, false);
                due.due("31: made anew", x.sheet(1, bits, n), 1);
                dueZeros(x, "31: all are 0 again", 1, true);
                x.put(1, n - 1, 1);
                dueZeros(x, "31: but for the last", 1, false);
                x.sheet(1, bits, -1);
                x.sheet(1, bits, 41);
                x.sheet(1, 9, 1);
                dueZeros(x, "31: ERRORS leave it", 1, false);
                x.sheet(1, 0, 7);
                due.due("31: missing", x.late(0, 1), Due.NONE);
                x.sheet(1, bits, n);
                dueZeros(x, "31: all are 0 after it was missing", 1, true);
            }
        }
        // What a short one leaves behind is not seen in a longer one.
        x.sheet(1, 8, 40);
        for (int i = 0; i < 40; i++) {
            x.put(1, i, 5);
        }
        x.sheet(1, 8, 1);
        x.sheet(1, 32, 40);
        dueZeros(x, "31: all are 0, short and long", 1, true);
        Supplier<CatchBars> empty = EdgesOfSheetsTest::withEmpty;
        for (int i : new int[] {0, -1, 1, 40, MIN, MAX}) {
            scene.refused("32: an empty one has no number " + i, Due.BEYOND, empty, y -> y.put(0, i, 1));
        }
        due.due("34: an empty one", withEmpty().turns(0), 0);
        due.due("35: an empty one, no FLYERS", withEmpty().judge(0), -1);
        due.due("33: an empty one", withEmpty().move(0, 0, 0, 0, 0), 0);
    }

    private static CatchBars withEmpty() {
        CatchBars x = new CatchBars();
        x.sheet(0, 8, 0);
        return x;
    }

    private static void put() {
        for (int s : new int[] {-1, 4, MIN, MAX}) {
            scene.refused("32: no such SHEET, " + s, Due.BEYOND, Scene::rich, x -> x.put(s, 0, 5));
            scene.refused("32: nor number, " + s, Due.BEYOND, Scene::rich, x -> x.put(s, -1, 5));
        }
        scene.outside("32: SHEET", 0, 3, Scene::rich, (x, s) -> x.put(s, 0, 5));
        for (int i : new int[] {0, -1, 1, 40, MIN, MAX}) {
            scene.refused("32: missing, number " + i, Due.NONE, Scene::rich, x -> x.put(3, i, 5));
        }
        scene.range("32: number of 6", 0, 5, Scene::rich, (x, i) -> x.put(0, i, 5));
        scene.range("32: number of 3", 0, 2, Scene::rich, (x, i) -> x.put(1, i, 5));
        scene.range("32: number of 40", 0, 39, Scene::rich, (x, i) -> x.put(2, i, 5));
        for (int v : new int[] {MIN, MAX, 0, -1, 128, -129, 32768}) {
            for (int s = 0; s < 3; s++) {
                due.due("32: put(" + s + ", 2, " + v + ")", Scene.rich().put(s, 2, v), 1);
            }
        }
    }

    private static void putLowestBits() {
        int[][] rows = {
            // bits, v, what it is
            {8, 256, 0}, {8, -256, 0}, {8, MIN, 0}, {8, 257, 1}, {8, 258, 2}, {8, 259, 3}, {8, -253, 3}, {8, 65536 + 3, 3},
            {8, MIN + 2, 2}, {16, 65536, 0}, {16, 65537, 1}, {16, -65535, 1}, {16, MIN + 3, 3}, {16, 256 + 3, 259},
            {16, MIN, 0}, {32, 3, 3}, {32, 259, 259}, {32, 65536 + 3, 65539}, {32, MIN + 3, MIN + 3}, {32, MIN, MIN},
            {8, 127, 127}, {8, 255, -1}, {8, 128, -128}, {16, 65535, -1}, {16, 32768, -32768}, {32, -1, -1},
        };
        for (int[] row : rows) {
            CatchBars x = zeros();
            Due.fill(x, 0, row[0], 2, row[1]);
            x.flyer(0);
            boolean turns = row[2] >= 1 && row[2] <= 3;
            due.due("34: " + row[1] + " in " + row[0] + " bits", x.turns(0), turns ? 2 : 1);
            due.due("34: TURNS", x.ofFlyer(1, 2), turns ? row[2] : 1);
            for (int goes = 0; goes < 2; goes++) {
                Due.fill(x, 1, row[0], goes, row[1]);
                due.due("35: " + row[1] + " in " + row[0] + " bits, GOES " + goes, x.judge(1), row[2] == goes ? -1 : 1);
                x.go(0);
                x.go(1);
            }
            Due.fill(x, 2, row[0], row[1]);
            dueZeros(x, "27: " + row[1] + " in " + row[0] + " bits is 0", 2, row[2] == 0);
        }
    }

    private static CatchBars forMoves() {
        CatchBars x = Scene.rich();
        x.sheet(1, 8, 4);
        x.sheet(2, 16, 6);
        return x;
    }

    private static void moveErrors() {
        scene.outside("33: SHEET", 0, 3, EdgesOfSheetsTest::forMoves, (x, s) -> x.move(s, 0, 0, 0, 1));
        scene.outside("33: the other one", 0, 3, EdgesOfSheetsTest::forMoves, (x, s) -> x.move(0, 0, s, 0, 1));
        for (int s : new int[] {-1, 4, MIN, MAX}) {
            refusedMove("no such SHEET, the other is missing", Due.BEYOND, s, 0, 3, 0, 1);
            refusedMove("no such other one, the SHEET is missing", Due.BEYOND, 3, 0, s, 0, 1);
            refusedMove("no such SHEETS, no such numbers", Due.BEYOND, s, -1, s, -1, -1);
        }
        int[][] wrongs = {{0, 0, 1}, {-1, 0, 1}, {0, -1, 1}, {0, 0, -1}, {9, 9, 9}, {MAX, MAX, MAX}, {MIN, MIN, MIN}, {0, 0, 0}};
        for (int[] w : wrongs) {
            refusedMove("from a missing one", Due.NONE, 3, w[0], 0, w[1], w[2]);
            refusedMove("to a missing one", Due.NONE, 0, w[0], 3, w[1], w[2]);
            refusedMove("in a missing one", Due.NONE, 3, w[0], 3, w[1], w[2]);
            refusedMove("8 to 16 bits", Due.KIND, 0, w[0], 2, w[1], w[2]);
            refusedMove("16 to 8 bits", Due.KIND, 2, w[0], 1, w[1], w[2]);
        }
        int[] bits = {8, 16, 32};
        for (int from : bits) {
            for (int to : bits) {
                CatchBars x = new CatchBars();
                x.sheet(0, from, 1);
                x.sheet(1, to, 1);
                due.due("33: from " + from + " to " + to, x.move(0, 0, 1, 0, 1), from == to ? 1 : Due.KIND);
            }
        }
    }

    private static void refusedMove(String why, int error, int sheet, int i, int other, int j, int n) {
        scene.refused("33: " + why + ", " + i + ", " + j + ", " + n, error, EdgesOfSheetsTest::forMoves,
            x -> x.move(sheet, i, other, j, n));
    }

    /** From 6 numbers to 4: where so many stand, and where they don't. */
    private static void movePlaces() {
        for (int i = -1; i <= 7; i++) {
            for (int j = -1; j <= 5; j++) {
                for (int n = -1; n <= 7; n++) {
                    boolean stand = i >= 0 && j >= 0 && n >= 0 && i + n <= 6 && j + n <= 4;
                    due.due("33: move(0, " + i + ", 1, " + j + ", " + n + ")", forMoves().move(0, i, 1, j, n),
                        stand ? n : Due.BEYOND);
                }
            }
        }
        int[][] wrongs = {
            {-1, 0, 1}, {6, 0, 1}, {0, -1, 1}, {0, 4, 1}, {0, 0, -1}, {0, 0, 5}, {2, 0, 5}, {3, 0, 4}, {0, 1, 4}, {7, 0, 0},
            {0, 5, 0}, {-1, 0, 0}, {0, -1, 0}, {MAX, 0, 1}, {0, MAX, 1}, {0, 0, MAX}, {MIN, 0, 1}, {0, MIN, 1}, {0, 0, MIN},
            {MAX, 0, MAX}, {0, MAX, MAX}, {1, 1, MAX}, {MIN, MIN, MIN}, {MAX, MAX, 0}, {MAX, MAX, 2}, {2, 0, MAX},
        };
        for (int[] w : wrongs) {
            refusedMove("they don't stand there", Due.BEYOND, 0, w[0], 1, w[1], w[2]);
        }
        due.due("33: all 40 in itself", forFortyMoves().move(2, 0, 2, 0, 40), 40);
        due.due("33: 41 in itself", forFortyMoves().move(2, 0, 2, 0, 41), Due.BEYOND);
        due.due("33: none behind the end", forFortyMoves().move(2, 40, 2, 40, 0), 0);
        due.due("33: one behind the end", forFortyMoves().move(2, 40, 2, 39, 1), Due.BEYOND);
        due.due("33: one to behind the end", forFortyMoves().move(2, 39, 2, 40, 1), Due.BEYOND);
        due.due("33: the last to the first", forFortyMoves().move(2, 39, 2, 0, 1), 1);
    }

    private static CatchBars forFortyMoves() {
        return Scene.rich();
    }

    private static void moveAsTheyAllWere() {
        int[] numbers = {1, 2, 3, 3, 1, 2};
        for (int bits : new int[] {8, 16, 32}) {
            for (int i = 0; i <= 6; i++) {
                for (int j = 0; j <= 6; j++) {
                    for (int n = 0; i + n <= 6 && j + n <= 6; n++) {
                        CatchBars x = Scene.rich();
                        Due.fill(x, 0, bits, numbers);
                        int[] want = numbers.clone();
                        for (int k = 0; k < n; k++) {
                            want[j + k] = numbers[i + k];
                        }
                        String call = "33: move(0, " + i + ", 0, " + j + ", " + n + ") of " + bits + " bits";
                        due.due(call, x.move(0, i, 0, j, n), n);
                        due.due(call + ", turns", x.turns(0), 6);
                        for (int f = 0; f < 6; f++) {
                            due.due(call + ", number " + f, x.ofFlyer(f, 2), want[f]);
                        }
                    }
                }
            }
        }
        CatchBars x = zeros();
        x.sheet(0, 16, 40);
        x.sheet(1, 16, 40);
        x.put(0, 39, 7);
        due.due("33: all but the last", x.move(0, 0, 1, 0, 39), 39);
        dueZeros(x, "33: the last one stayed", 1, true);
        due.due("33: the last one", x.move(0, 39, 1, 0, 1), 1);
        dueZeros(x, "33: it came", 1, false);
        due.due("33: back over it", x.move(0, 0, 1, 0, 39), 39);
        dueZeros(x, "33: it is gone", 1, true);
        dueZeros(x, "33: the SHEET is as it was", 0, false);
    }

    private static void turns() {
        for (int s : new int[] {-1, 4, MIN, MAX}) {
            scene.refused("34: no such SHEET, " + s, Due.BEYOND, Scene::rich, x -> x.turns(s));
            scene.refused("35: no such SHEET, " + s, Due.BEYOND, Scene::rich, x -> x.judge(s));
        }
        for (int s = 0; s < 4; s++) {
            int of = s;
            scene.refused("34: missing, " + s, Due.NONE, CatchBars::new, x -> x.turns(of));
            scene.refused("35: missing, " + s, Due.NONE, CatchBars::new, x -> x.judge(of));
        }
        scene.refused("34: missing", Due.NONE, Scene::rich, x -> x.turns(3));
        scene.refused("35: missing", Due.NONE, Scene::rich, x -> x.judge(3));
        int[][] rows = {
            // what is put, and how many become TURNS of 3 FLYERS
            {1}, {1}, {3}, {1}, {2}, {1}, {0}, {0}, {4}, {0}, {-1}, {0}, {}, {0}, {3, 3, 3}, {3}, {1, 2, 3}, {3},
            {3, 3, 3, 3}, {3}, {3, 3, 3, 0}, {3}, {3, 3, 0}, {2}, {3, 3, 4}, {2}, {3, 0, 3}, {1}, {0, 3, 3}, {0},
            {2, 2, -3}, {2}, {MAX, 1}, {0}, {2, MIN, 2}, {1},
        };
        for (int i = 0; i < rows.length; i += 2) {
            for (int were = 1; were <= 3; were++) {
                CatchBars x = Scene.withFlyers(3);
                Due.fill(x, 0, 32, rows[i]);
                for (int f = 0; f < 3; f++) {
                    x.turn(f, were);
                }
                String call = "34: row " + i / 2 + ", TURNS were " + were;
                int many = rows[i + 1][0];
                due.due(call, x.turns(0), many);
                for (int f = 0; f < 3; f++) {
                    due.due(call + ", FLYER " + f, x.ofFlyer(f, 2), f < many ? rows[i][f] : were);
                }
                for (int k = 1; k <= 5; k++) {
                    due.due(call + ", no ERROR", x.told(k), 0);
                }
            }
        }
        CatchBars x = Scene.withFlyers(6);
        Due.fill(x, 1, 8, 1, 2, 3, 3, 2, 1, 1, 1);
        due.due("34: six of eight", x.turns(1), 6);
        due.due("34: the sixth", x.ofFlyer(5, 2), 1);
        due.due("34: no FLYERS", noFlyersButNumbers().turns(0), 0);
    }

    private static CatchBars noFlyersButNumbers() {
        CatchBars x = new CatchBars();
        Due.fill(x, 0, 8, 1, 1);
        return x;
    }

    private static void judge() {
        // GOES of 3 FLYERS are 0, 1, 2.
        int[][] rows = {
            {0, 1, 2}, {-1}, {0, 1}, {2}, {0}, {1}, {}, {0}, {0, 1, 2, 0}, {3}, {0, 1, 2, 9, 9}, {3}, {1, 1, 2}, {0},
            {0, 0, 2}, {1}, {0, 1, 1}, {2}, {0, 1, 3}, {2}, {-1, 1, 2}, {0}, {0, 2}, {1}, {1}, {0}, {0, 1, 1, 1}, {2},
            {0, MAX, 2}, {1}, {MIN, 1, 2}, {0},
        };
        for (int i = 0; i < rows.length; i += 2) {
            CatchBars x = Scene.withFlyers(3);
            x.go(1);
            x.go(2);
            x.go(2);
            Due.fill(x, 0, 32, rows[i]);
            due.due("35: row " + i / 2, x.judge(0), rows[i + 1][0]);
            due.due("35: row " + i / 2 + " again", x.judge(0), rows[i + 1][0]);
        }
        due.due("35: no FLYERS, numbers", noFlyersButNumbers().judge(0), 0);
        CatchBars y = Scene.withFlyers(6);
        Due.fill(y, 2, 16, new int[6]);
        due.due("35: six, none went", y.judge(2), -1);
        y.go(5);
        due.due("35: the sixth went", y.judge(2), 5);
        y.put(2, 5, 1);
        due.due("35: and is told", y.judge(2), -1);
        Due.fill(y, 2, 16, new int[40]);
        due.due("35: the sixth of 40", y.judge(2), 5);
        CatchBars z = Scene.withFlyers(1);
        for (int i = 0; i < 100; i++) {
            z.go(0);
        }
        Due.fill(z, 0, 8, 99);
        due.due("35: 99 at most", z.judge(0), -1);
        Due.fill(z, 0, 8, 100);
        due.due("35: not 100", z.judge(0), 0);
    }

    private static void imageOfNothing() {
        scene.refused("37: no IMAGE", Due.NONE, CatchBars::new, CatchBars::restore);
        scene.refused("37: no IMAGE", Due.NONE, () -> Scene.withFlyers(6), CatchBars::restore);
        CatchBars x = new CatchBars();
        due.due("36: image()", x.image(), 1);
        x.flyer(69);
        x.swing(0, 0, 40);
        x.swing(1, 1, 60);
        x.swing(1, 2, 11);
        x.set(0, 200);
        x.set(1, 30);
        x.set(2, 299);
        x.go(0);
        x.ticks(200);
        x.evenings(40);
        x.seed(7);
        x.tell(1);
        Due.text(x, 0, "9");
        Due.text(x, 1, "9");
        Due.feed(x, "k+");
        due.due("37: restore()", x.restore(), 0);
        int[] counts = {0, 0, 0, 0, 0, 60, 5, 30, 0, 0, 0, 1};
        for (int what = 0; what < counts.length; what++) {
            due.due("37: count(" + what + ") as at first", x.count(what), counts[what]);
        }
        due.due("37: nothing waits", x.check(), 0);
        due.due("37: THE TAPE is empty", x.text(0), -10);
        due.due("37: no FLYER", x.ofFlyer(0, 0), Due.BEYOND);
        due.due("37: FLIGHT without a TEXT", x.law(0, 1, 0, 0), 5);
        due.due("37: AIR without a TEXT", x.law(1, 1, 0, 0), 28);
        for (int s = 0; s < 2; s++) {
            due.due("37: PHASE", x.swing(s, 2, 0), 0);
            due.due("37: WIDTH", x.swing(s, 1, 20), 20);
            due.due("37: PERIOD", x.swing(s, 0, 12), 12);
        }
        due.due("37: the first FLYER", x.flyer(5), 0);
        due.due("37: its GOES", x.ofFlyer(0, 3), 0);
    }

    /** All is as full as can be in an IMAGE. */
    private static void imageOfAll() {
        CatchBars x = Scene.full();
        due.due("36: image()", x.image(), 2);
        int[] counts = new int[12];
        for (int what = 0; what < 12; what++) {
            counts[what] = x.count(what);
        }
        due.due("36: TICK", counts[1], 9999);
        due.due("36: THE TAPE", counts[8], 50);
        due.due("36: what waits", counts[9], 20);
        due.due("36: FLYERS", counts[0], 6);
        x.check();
        for (int i = 0; i < 20; i++) {
            x.tell(99);
        }
        x.text(0);
        Due.feed(x, "9".repeat(50));
        x.rest();
        x.seed(3);
        x.set(2, 7);
        x.set(0, 0);
        x.set(1, 30);
        for (int s = 0; s < 2; s++) {
            x.swing(s, 1, 1);
        }
        Due.text(x, 1, "0");
        due.due("36: THE TAPE of 9s is no TEXT", x.count(8), 0);
        Due.feed(x, "9".repeat(50));
        due.due("13: a catch", x.go(1), 0);
        due.due("13: CATCHES are more", x.count(2) - counts[2], 1);
        x.set(0, 200);
        due.due("13: a fall", x.go(1) > 0 ? 1 : 0, 1);
        due.due("37: restore()", x.restore(), 9999);
        for (int what = 0; what < 12; what++) {
            due.due("37: count(" + what + ")", x.count(what), counts[what]);
        }
        due.due("37: THE TAPE is full", x.feed(0, 1), Due.FULL);
        due.due("37: as many wait as can", x.tell(0), Due.FULL);
        due.due("37: no more FLYERS", x.flyer(0), Due.FULL);
        due.due("37: no more TICKS", x.ticks(1), Due.STATE);
        due.due("37: all that waits is so", x.check(), 0);
        due.due("37: THE TAPE is a TEXT", x.text(1), 1);
        due.due("37: its law: m*v+k, 21 times 1 and 11", x.law(1, 2, 3, 4), 12 + 2 + 21 + 11);
        due.due("37: GOES", x.rest() > 0 ? 1 : 0, 1);
        due.due("37: once more", x.restore(), 9999);
        due.due("37: THE TAPE is there again", x.count(8), 50);
    }

    private static void imagesFollow() {
        CatchBars x = new CatchBars();
        for (int i = 1; i <= 5; i++) {
            due.due("36: the IMAGE at " + i, x.image(), i);
            x.ticks(1);
            due.due("37: restore()", x.restore(), i - 1);
            due.due("37: it stays", x.restore(), i - 1);
            x.ticks(1);
        }
        due.due("37: restore() does not count", x.image(), 6);
        due.due("37: of the latest", x.restore(), 5);
        // An IMAGE is not changed by what is done after it, nor after a restore().
        CatchBars y = Scene.withFlyers(2);
        y.image();
        for (int i = 0; i < 3; i++) {
            y.go(0);
            y.turn(1, 3);
            y.become(0, 69);
            y.swing(1, 1, 7);
            y.feed('1', 1);
            y.tell(4);
            due.due("37: restore()", y.restore(), 0);
            due.due("37: GOES", y.ofFlyer(0, 3), 0);
            due.due("37: TURNS", y.ofFlyer(1, 2), 1);
            due.due("37: KIND", y.ofFlyer(0, 0), 0);
            due.due("37: THE TAPE", y.count(8), 0);
            due.due("37: what waits", y.count(9), 0);
        }
        due.due("37: WIDTH", y.swing(1, 1, 1), 20);
    }

    private static void notInTheImage() {
        // image() itself changes nothing of what it doesn't keep.
        CatchBars y = Scene.rich();
        int[] told = new int[6];
        for (int k = 1; k <= 5; k++) {
            told[k] = y.told(k);
        }
        y.image();
        for (int k = 1; k <= 5; k++) {
            due.due("36: told(" + k + ") stays", y.told(k), told[k]);
        }
        due.due("36: THE TRACE stays", y.count(10), 8);
        due.due("36: THE TRACE stays", y.trace(0), 50);
        due.due("36: SHEETS stay", y.turns(0), 6);
        due.due("36: SHEETS stay", y.ofFlyer(5, 2), 3);
        due.due("36: THE TAPE stays", y.count(8), 5);
        due.due("36: what waits stays", y.count(9), 3);
        due.due("36: and is so", y.check(), 0);
        CatchBars x = Scene.withFlyers(3);
        x.voice(0, 2, 5);
        Due.fill(x, 0, 8, 1, 1, 1);
        x.image();
        x.voice(0, 3, 5);
        Due.fill(x, 0, 16, 3, 3);
        x.sheet(1, 8, 1);
        x.go(9);
        x.as(0, 6);
        x.sheet(1, 8, -1);
        x.trace(9);
        for (int i = 0; i < 21; i++) {
            x.tell(0);
        }
        due.due("37: restore()", x.restore(), 0);
        due.due("36: THE TRACE is not kept", x.count(10), 4);
        due.due("36: THE TRACE is not kept", x.trace(0), 13);
        due.due("36: SHEETS are not kept", x.turns(0), 2);
        due.due("36: SHEETS are not kept", x.ofFlyer(1, 2), 3);
        due.due("36: SHEETS are not kept", x.put(1, 0, 0), 1);
        for (int k = 1; k <= 5; k++) {
            due.due("36: told(" + k + ") is not kept", x.told(k), 1);
        }
        due.due("36: what waits is kept", x.count(9), 0);
    }

    private static void tell() {
        CatchBars x = new CatchBars();
        for (int i = 1; i <= 20; i++) {
            due.due("38: the " + i + ". one", x.tell(i % 2 == 0 ? MIN : MAX), i);
        }
        for (int v : new int[] {0, MIN, MAX, 20}) {
            due.due("38: a 21st", x.tell(v), Due.FULL);
            scene.refused("38: a 21st, " + v, Due.FULL, Scene::full, y -> y.tell(v));
        }
        due.due("38: 20 wait", x.count(9), 20);
        x.check();
        for (int i = 1; i <= 20; i++) {
            due.due("38: the " + i + ". one after none", x.tell(0), i);
        }
        due.due("38: FULL again", x.tell(0), Due.FULL);
        due.due("38: told(4)", x.told(4), 5);
    }

    private static void check() {
        due.due("39: none wait", new CatchBars().check(), 0);
        // BARS are 20, 0, -20, 0 and so on.
        for (int n = 1; n <= 20; n++) {
            for (int wrong = 0; wrong <= n; wrong++) {
                CatchBars x = Due.plain();
                for (int i = 0; i < n; i++) {
                    int bar = new int[] {20, 0, -20, 0}[i % 4];
                    x.tell(i == wrong ? bar + 1 : i > wrong ? 99 : bar);
                }
                due.due("39: " + n + " wait, wrong at " + wrong, x.check(), wrong < n ? wrong + 1 : 0);
                due.due("39: none do then", x.count(9), 0);
                due.due("39: none wait", x.check(), 0);
                due.due("39: no ERROR", x.told(2), 0);
            }
        }
        CatchBars x = Due.plain();
        x.swing(0, 2, 3);
        x.swing(1, 2, 1);
        for (int bar : new int[] {0, 20, 0, -20}) {
            x.tell(bar);
        }
        due.due("39: of SWING 0, with its PHASE", x.check(), 0);
    }

    private static void count() {
        scene.range("40: what", 0, 11, Scene::rich, (x, what) -> x.count(what));
        CatchBars x = new CatchBars();
        x.set(2, -99);
        due.due("40: NET below 0", x.count(7), -99);
        x.seed(Due.BEYOND);
        due.due("40: z may look like an ERROR", x.count(11), Due.BEYOND);
        due.due("40: none is told", x.told(1), 0);
        for (int what : new int[] {-1, 12, 13, MIN, MAX}) {
            scene.refused("40: what " + what, Due.BEYOND, Scene::rich, y -> y.count(what));
        }
    }

    private static void told() {
        scene.range("41: k", 1, 5, Scene::rich, (x, k) -> x.told(k));
        for (int k : new int[] {0, 6, -1, -5, MIN, MAX, Due.BEYOND}) {
            scene.refused("41: k " + k, Due.BEYOND, CatchBars::new, x -> x.told(k));
            CatchBars x = new CatchBars();
            x.told(k);
            due.due("41: counted, too", x.told(1), 1);
            due.due("41: and asked for only once", x.told(1), 1);
        }
        // By one act each, and no other is counted.
        Scene.Act[] acts = {
            x -> x.go(6), CatchBars::restore, x -> x.sheet(0, 8, -1), x -> x.flyer(0), x -> x.as(0, 6),
        };
        for (int of = 1; of <= 5; of++) {
            CatchBars x = Scene.withFlyers(6);
            for (int i = 1; i <= 3; i++) {
                due.due("41: an ERROR", acts[of - 1].on(x), Due.LOW - of);
                for (int k = 1; k <= 5; k++) {
                    due.due("41: told(" + k + ") after " + i + " ERRORS " + of, x.told(k), k == of ? i : 0);
                }
            }
        }
    }

    /** An object is used for at most 512 calls: it counts as far. */
    private static void toldManyTimes() {
        CatchBars x = new CatchBars();
        for (int i = 0; i < 511; i++) {
            due.due("41: an ERROR", x.go(0), Due.BEYOND);
        }
        due.due("41: told(1) as the 512th call", x.told(1), 511);
    }
}
