/** Promises 10 to 12: feed, text, law. */
public final class TextsTest {
    private static final int MIN = Integer.MIN_VALUE;
    private static final int MAX = Integer.MAX_VALUE;
    private static final Due due = new Due("TextsTest");

    public static void main(String[] args) {
        feed();
        text();
        faults();
        values();
        held();
        atFirst();
        namesInGoes();
        due.end();
    }

    private static void feed() {
        CatchBars x = new CatchBars();
        due.due("feed(.., 8)", x.feed(0x3837363534333231L, 8), 8);
        due.dueForAll("feed's n", Due.BEYOND, n -> x.feed(0, n), 0, 9, -1, MIN, MAX);
        for (int i = 2; i <= 6; i++) {
            due.due("feed(.., 8) again", x.feed(-1L, 8), 8 * i);
        }
        due.due("three more", x.feed(0, 3), Due.FULL);
        due.due("nine more", x.feed(0, 9), Due.BEYOND);
        due.due("two more", x.feed(0, 2), 50);
        due.due("one more", x.feed(0, 1), Due.FULL);
        due.due("count(8)", x.count(8), 50);
        // The lowest byte first, and no more of them than n.
        CatchBars y = new CatchBars();
        y.feed('7' | '1' << 8 | 'x' << 16, 2);
        due.due("71 is too much for FLIGHT", y.text(0), 1);
        due.due("law(0, ..)", y.law(0, 0, 0, 0), 30);
        y.feed(0x3100000000000000L | '2' | '+' << 8 | '1' << 16 | '+' << 24 | (long) '1' << 32
            | (long) '+' << 40 | (long) '1' << 48, 7);
        due.due("2+1+1+1", y.text(0), 1);
        due.due("law(0, ..)", y.law(0, 0, 0, 0), 5);
        y.feed(0x3900000000000000L | '2' | '+' << 8 | '1' << 16 | '+' << 24 | (long) '1' << 32
            | (long) '+' << 40 | (long) '1' << 48, 8);
        due.due("2+1+1+19", y.text(0), 1);
        due.due("law(0, ..)", y.law(0, 0, 0, 0), 23);
    }

    private static void text() {
        CatchBars x = new CatchBars();
        Due.feed(x, "k+1");
        due.dueForAll("text's use", Due.BEYOND, u -> x.text(u), -1, 2, MIN, MAX);
        due.due("THE TAPE stays", x.count(8), 3);
        due.due("text(0)", x.text(0), 1);
        due.due("THE TAPE is empty", x.count(8), 0);
        due.due("law(0, 7, ..)", x.law(0, 7, 0, 0), 8);
        due.due("the other USE is as it was", x.law(1, 7, 0, 0), 16);
        due.due("a FAULT", Due.text(x, 0, "k+x"), -12);
        due.due("THE TAPE is empty, too", x.count(8), 0);
        due.due("the TEXT ahead stays", x.law(0, 7, 0, 0), 8);
        due.due("in place of it", Due.text(x, 0, "m"), 1);
        due.due("law(0, .., 9)", x.law(0, 7, 0, 9), 9);
        due.due("an empty TAPE", x.text(0), -10);
        due.due("told(1): no ERROR is a FAULT", x.told(1), 4);
        Due.feed(x, "k");
        Due.feed(x, "+v");
        due.due("fed in parts", x.text(1), 1);
        due.due("law(1, 3, 4, ..)", x.law(1, 3, 4, 0), 7);
        String longest = "k+k+k+k+k+k+k+k+k+k+k+k+k+k+k+k+k+k+k+k+k+k+k+k+10";
        due.due("50 bytes", Due.text(x, 1, longest), 1);
        due.due("law of 50 bytes", x.law(1, 2, 0, 0), 58);
        due.due("many stand open", Due.text(x, 1, "0|1&1<1+1*(0|1&1<1+1*(0|1&1<1+1*(0|1&1<1+1*1)))"), 1);
        due.due("law of many open", x.law(1, 2, 0, 0), 1);
    }

    private static void faults() {
        // What goes on with no TEXT, or ends too early, and where.
        Object[][] rows = {
            {"", 0}, {"x", 0}, {"+", 0}, {")", 0}, {"|", 0}, {"=", 0}, {" 1", 0}, {"-1", 0}, {"K", 0}, {"t", 0},
            {"1 ", 1}, {"1+", 2}, {"1+ 2", 2}, {"12345", 4}, {"1234", -1}, {"00000", 4}, {"0000", -1},
            {"k1", 1}, {"1k", 1}, {"kk", 1}, {"k(", 1}, {"1!", 1}, {"(1)k", 3}, {"(1)2", 3}, {"(1)(", 3},
            {"1<2<3", 3}, {"1<2=3", 3}, {"1=2>3", 3}, {"(1<2)<3", -1}, {"1<(2<3)", -1}, {"1<2&3<4", -1},
            {"1<2|3<4", -1}, {"1<2&3<4<5", 7}, {"1<2+3=1", 5}, {"(1<2<3", 4}, {"1<(2<3)<4", 7},
            {"1<=2", 2}, {"1==2", 2}, {"1&&2", 2}, {"1||2", 2}, {"1--2", 2}, {"1+-2", 2}, {"1*/2", 2},
            {"(", 1}, {"()", 1}, {"(1", 2}, {"(1))", 3}, {"1)", 1}, {"((1)", 4}, {"(1+)", 3}, {"(1+2", 4},
            {"!", 1}, {"!)", 1}, {"!+", 1}, {"!1", -1}, {"!!1", -1}, {"1+!", 3}, {"1!=2", 1},
            {"!!!!!1", -1}, {"!!!!!!1", 5}, {"((((((1", 5}, {"(((((1)))))", -1}, {"(((((1))))))", 11},
            {"(((((1+k<m&v|1*2)))))", -1}, {"!!!!(1+k<m&v|1*2)", -1}, {"(((((1<2<3", 8}, {"(((((1+(", 7},
            {"(!(!(!1)))", 5}, {"(!(!(1)))", -1}, {"!(!(!(", 5}, {"(((((!1", 5}, {"!!!!!(1)", 5},
            {"!!!!!1+!!!!!1", -1}, {"!!!!!1+!!!!!!1", 12}, {"(((((1)))))+(((((k)))))", -1},
            {"(!!!!1)&(!!!!1)", -1}, {"(!!!!1&!!!!1)", -1}, {"(!!!!1&!!!!!1)", 11}, {"(!!!!!", 5},
            {"k&v|m", -1}, {"k%v*m/2", -1}, {"k@v", 1}, {"1.5", 1}, {"k\377", 1}, {"\0", 0}, {"1\0", 1},
            {"k+v-m*2/3%4<5&6|7", -1},
        };
        CatchBars x = new CatchBars();
        int calls = 0;
        for (Object[] row : rows) {
            String text = (String) row[0];
            int fault = (Integer) row[1];
            due.due("text " + text, Due.text(x, 1, text), fault < 0 ? 1 : -10 - fault);
            if (++calls % 100 == 0) {
                x = new CatchBars();
            }
        }
        CatchBars y = new CatchBars();
        due.due("50 bytes that end too early", Due.text(y, 0, "1+".repeat(25)), -60);
        due.due("50 bytes, wrong at the last", Due.text(y, 0, "1+".repeat(24) + "1)"), -59);
    }

    private static void values() {
        CatchBars x = new CatchBars();
        // k is 7, v is -5, m is 3.
        Object[][] rows = {
            {"7", 7}, {"0007", 7}, {"0", 0}, {"k", 7}, {"v", -5}, {"m", 3}, {"(k)", 7},
            {"k+v", 2}, {"k-v", 12}, {"k-v-m", 9}, {"k-(v-m)", 15}, {"k*v", -35}, {"k+v*m", -8}, {"(k+v)*m", 6},
            {"k/m", 2}, {"v/m", -1}, {"v%m", -2}, {"k%m", 1}, {"v/2", -2}, {"k/0", 0}, {"k%0", 0}, {"v%0", 0},
            {"0/0", 0}, {"k/m*m", 6}, {"k*m/2", 10}, {"k%m*9", 9}, {"99/k/m", 4}, {"99/(k/m)", 49},
            {"k<m", 0}, {"m<k", 1}, {"m<m", 0}, {"k>m", 1}, {"m>k", 0}, {"m>m", 0}, {"m=m", 1}, {"k=m", 0},
            {"v<m", 1}, {"k+v<m", 1}, {"m<k+v", 0}, {"m=k-4", 1}, {"m*2>k-1", 0},
            {"k|m", 1}, {"0|0", 0}, {"0|v", 1}, {"v|0", 1}, {"k&m", 1}, {"k&0", 0}, {"0&k", 0}, {"v&v", 1},
            {"4&2", 1}, {"4|2", 1}, {"1|0&0", 1}, {"(1|0)&0", 0}, {"0&0|1", 1}, {"k&v&m", 1}, {"0|0|9", 1},
            {"1<2&2<1", 0}, {"1<2|2<1", 1}, {"0=0&m", 1},
            {"!k", 0}, {"!0", 1}, {"!!k", 1}, {"!v", 0}, {"!k*5", 0}, {"!(k*0)", 1}, {"!0+k", 8}, {"!0*k", 7},
            {"5-!0", 4}, {"!!!0", 1}, {"!(k<m)", 1}, {"!k<m", 1}, {"9999-9900", 99}, {"9999-9999+1", 1},
            {"9999*9999*9999*9999%97", (int) (9999L * 9999 * 9999 * 9999) % 97},
            {"9999*9999*22/9999/9999", (int) (9999L * 9999 * 22) / 9999 / 9999},
        };
        for (Object[] row : rows) {
            String text = (String) row[0];
            due.due("text " + text, Due.text(x, 1, text), 1);
            due.due("law of " + text, x.law(1, 7, -5, 3), (Integer) row[1]);
        }
        CatchBars y = new CatchBars();
        Due.text(y, 1, "k+v<k");
        due.due("ints wrap", y.law(1, MAX, 1, 0), 1);
        Due.text(y, 1, "k/v=k");
        due.due("the least int by -1", y.law(1, MIN, -1, 0), 1);
        Due.text(y, 1, "k%v");
        due.due("its rest", y.law(1, MIN, -1, 0), 0);
        Due.text(y, 1, "k/v");
        due.due("by 0", y.law(1, MIN, 0, 0), 0);
        Due.text(y, 1, "k*v+m");
        due.due("products wrap", y.law(1, 65536, 65536, 4), 4);
    }

    private static void held() {
        CatchBars x = new CatchBars();
        Due.text(x, 0, "k");
        Due.text(x, 1, "k");
        int[][] rows = {
            {MIN, 1, -99}, {-100, 1, -99}, {-99, 1, -99}, {-98, 1, -98}, {0, 1, 0}, {1, 1, 1}, {2, 2, 2},
            {29, 29, 29}, {30, 30, 30}, {31, 30, 31}, {98, 30, 98}, {99, 30, 99}, {100, 30, 99}, {MAX, 30, 99},
        };
        for (int[] row : rows) {
            due.due("FLIGHT of " + row[0], x.law(0, row[0], 0, 0), row[1]);
            due.due("AIR of " + row[0], x.law(1, row[0], 0, 0), row[2]);
        }
        due.dueForAll("law's use", Due.BEYOND, u -> x.law(u, 1, 1, 1), -1, 2, MIN, MAX);
    }

    private static void atFirst() {
        CatchBars x = new CatchBars();
        int[][] rows = {
            {1, 0, 0, 5, 28}, {2, 4, 9, 7, 38}, {3, -10, 0, 9, -6}, {-1, 0, 0, 1, 32}, {13, 0, 0, 29, 4},
            {14, 0, 0, 30, 2}, {-2, 0, 0, 1, 34}, {0, 23, 0, 3, 99}, {0, 24, 0, 3, 99}, {0, -43, 0, 3, -99},
            {0, -44, 5, 3, -99}, {MAX, 0, 0, 1, 32}, {MIN, 0, 0, 3, 30},
        };
        for (int[] row : rows) {
            due.due("FLIGHT at first", x.law(0, row[0], row[1], row[2]), row[3]);
            due.due("AIR at first", x.law(1, row[0], row[1], row[2]), row[4]);
        }
    }

    /** The NAMES stand for TURNS, v, m of the FLYER that goes. */
    private static void namesInGoes() {
        CatchBars x = Due.plain(6);
        x.turn(0, 3);
        Due.text(x, 0, "k*4+m");
        due.due("it comes at 18", x.then(0, 0, 2), 18);
        Due.text(x, 1, "v");
        due.due("v at 0", x.then(0, 0, 3), 20 + 20);
        due.due("v at 1", x.then(0, 1, 3), 0 - 20);
        due.due("v at 2", x.then(0, 2, 3), -20 - 20);
        due.due("v at 3", x.then(0, 3, 3), 0 + 20);
        Due.text(x, 1, "k*10+m");
        due.due("k and m in AIR", x.then(0, 1, 3), 36);
        Due.text(x, 0, "v+25");
        due.due("v in FLIGHT at 0", x.then(0, 0, 2), 30);
        due.due("v in FLIGHT at 1", x.then(0, 1, 2), 6);
    }
}
