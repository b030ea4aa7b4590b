/** Promises 38 to 41: tell, check, count, told. */
public final class ToldTest {
    private static final int MIN = Integer.MIN_VALUE;
    private static final int MAX = Integer.MAX_VALUE;
    private static final Due due = new Due("ToldTest");

    public static void main(String[] args) {
        tell();
        check();
        count();
        told();
        due.end();
    }

    private static void tell() {
        CatchBars x = new CatchBars();
        for (int i = 1; i <= 20; i++) {
            due.due("tell", x.tell(i % 2 == 0 ? MIN : MAX), i);
        }
        due.due("a 21st", x.tell(0), Due.FULL);
        due.due("count(9)", x.count(9), 20);
        due.due("told(4)", x.told(4), 1);
        due.due("check()", x.check(), 1);
        due.due("count(9)", x.count(9), 0);
        due.due("tell again", x.tell(0), 1);
    }

    private static void check() {
        CatchBars x = Due.plain();
        due.due("none wait", x.check(), 0);
        int[] bars = {20, 0, -20, 0};
        for (int i = 0; i < 20; i++) {
            x.tell(bars[i % 4]);
        }
        due.due("all are so", x.check(), 0);
        due.due("none wait", x.count(9), 0);
        for (int i = 0; i < 20; i++) {
            x.tell(i == 19 ? 1 : bars[i % 4]);
        }
        due.due("the last isn't", x.check(), 20);
        x.tell(19);
        x.tell(0);
        due.due("the first isn't", x.check(), 1);
        x.ticks(2);
        x.tell(-20);
        x.tell(0);
        x.tell(20);
        due.due("from now on", x.check(), 0);
        x.tell(-20);
        x.tell(0);
        x.tell(-20);
        due.due("the third isn't", x.check(), 3);
        x.swing(1, 1, 50);
        x.swing(0, 1, 9);
        x.tell(-9);
        due.due("of SWING 0", x.check(), 0);
        CatchBars y = Due.plain();
        for (int i = 0; i < 49; i++) {
            y.ticks(200);
        }
        y.ticks(199);
        y.tell(0);
        y.tell(20);
        due.due("past TICK 9999", y.check(), 0);
    }

    private static void count() {
        CatchBars x = Due.plain(0);
        x.flyer(61);
        x.ticks(8);
        x.go(0);
        x.go(0);
        x.ticks(1);
        x.go(1);
        x.set(0, 100);
        x.set(1, 9);
        x.set(2, -99);
        x.tell(1);
        Due.feed(x, "abcde");
        x.voice(1, 3, 4);
        x.seed(-5);
        int[] counts = {2, 9, 1, 2, 20, 100, 9, -99, 5, 1, 9, -5};
        for (int what = 0; what < counts.length; what++) {
            due.due("count(" + what + ")", x.count(what), counts[what]);
        }
        due.dueForAll("count", Due.BEYOND, what -> x.count(what), -1, 12, MIN, MAX);
        due.due("told(1)", x.told(1), 4);
    }

    private static void told() {
        CatchBars x = new CatchBars();
        x.go(0);
        x.bar(3, 3);
        x.again(0, 0, 0, 0, 0);
        x.restore();
        x.sheet(0, 8, -1);
        x.sheet(0, 8, -1);
        x.sheet(0, 8, -1);
        for (int i = 0; i < 24; i++) {
            x.tell(0);
        }
        x.flyer(0);
        for (int i = 0; i < 5; i++) {
            x.as(0, 6);
        }
        int[] told = {3, 1, 3, 4, 5};
        for (int k = 1; k <= 5; k++) {
            due.due("told(" + k + ")", x.told(k), told[k - 1]);
        }
        due.dueForAll("told", Due.BEYOND, k -> x.told(k), 0, 6, -1, MIN, MAX);
        due.due("counted, too", x.told(1), 8);
        due.due("told answers no ERROR by itself", x.told(1), 8);
        x.seed(Due.FULL);
        x.count(11);
        x.seed(0);
        due.due("what only looks like an ERROR", x.told(4), 4);
    }
}
