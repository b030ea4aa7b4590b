/** Promises 36 and 37: image, restore. */
public final class ImagesTest {
    private static final Due due = new Due("ImagesTest");

    public static void main(String[] args) {
        none();
        all();
        notKept();
        staysAndIsReplaced();
        due.end();
    }

    private static void none() {
        CatchBars x = new CatchBars();
        x.ticks(3);
        due.due("restore, no IMAGE", x.restore(), Due.NONE);
        due.due("TICK", x.count(1), 3);
        due.due("told(2)", x.told(2), 1);
        due.due("image()", x.image(), 1);
        due.due("image()", x.image(), 2);
        due.due("restore()", x.restore(), 3);
        due.due("how often is not kept", x.image(), 3);
    }

    private static void dueCounts(CatchBars x, int... counts) {
        for (int what = 0; what < counts.length; what++) {
            due.due("count(" + what + ")", x.count(what), counts[what]);
        }
    }

    private static CatchBars ahead() {
        CatchBars x = Due.plain(31);
        x.flyer(45);
        x.turn(1, 3);
        x.swing(0, 1, 33);
        x.swing(0, 2, 1);
        x.swing(1, 0, 9);
        x.swing(1, 1, 44);
        x.swing(1, 2, 5);
        x.set(0, 61);
        x.set(1, 7);
        x.set(2, -9);
        x.ticks(5);
        x.go(0);
        x.go(0);
        x.go(1);
        x.seed(99);
        x.tell(-33);
        x.tell(0);
        Due.feed(x, "k+");
        return x;
    }

    /** What an IMAGE keeps is as it was, whatever came behind it. */
    private static void all() {
        CatchBars x = ahead();
        int catches = x.count(2);
        int falls = x.count(3);
        int hurt = x.count(4);
        due.due("image()", x.image(), 1);
        x.flyer(60);
        x.become(0, 22);
        x.become(1, 11);
        x.turn(0, 2);
        x.turn(1, 1);
        for (int s = 0; s < 2; s++) {
            x.swing(s, 0, 30);
            x.swing(s, 1, 3);
            x.swing(s, 2, 29);
        }
        x.set(0, 1);
        x.set(1, 1);
        x.set(2, 1);
        x.ticks(100);
        x.go(2);
        x.go(0);
        x.evenings(3);
        x.set(0, 0);
        x.set(1, 30);
        for (int s = 0; s < 2; s++) {
            x.swing(s, 1, 1);
        }
        Due.text(x, 1, "0");
        due.due("a catch more", x.go(0), 0);
        due.due("CATCHES are not as they were", x.count(2) == catches ? 1 : 0, 0);
        due.due("FALLS are not as they were", x.count(3) == falls ? 1 : 0, 0);
        due.due("HURT is not as it was", x.count(4) == hurt ? 1 : 0, 0);
        x.check();
        x.tell(5);
        Due.feed(x, "99");
        Due.text(x, 0, "");
        Due.text(x, 0, "1");
        Due.text(x, 1, "v");
        Due.feed(x, "1234");
        due.due("restore()", x.restore(), 5);
        dueCounts(x, 2, 5, catches, falls, hurt, 61, 7, -9, 2, 2, 0, 99);
        int[][] flyers = {{3, 1, 1, 2}, {4, 5, 3, 1}};
        for (int i = 0; i < 2; i++) {
            for (int what = 0; what < 4; what++) {
                due.due("ofFlyer(" + i + ", " + what + ")", x.ofFlyer(i, what), flyers[i][what]);
            }
        }
        due.due("no FLYER 2", x.go(2), Due.BEYOND);
        due.due("PERIOD of 0", x.swing(0, 0, 4), 4);
        due.due("WIDTH of 0", x.swing(0, 1, 33), 33);
        due.due("PHASE of 0", x.swing(0, 2, 1), 1);
        due.due("PERIOD of 1", x.swing(1, 0, 9), 9);
        due.due("WIDTH of 1", x.swing(1, 1, 44), 44);
        due.due("PHASE of 1", x.swing(1, 2, 5), 5);
        due.due("FLIGHT", x.law(0, 3, 0, 0), 4);
        due.due("AIR", x.law(1, 3, 9, 0), 0);
        due.due("at 5 and PHASE 1 it is -33, at 6 it is 0", x.check(), 0);
        due.due("what waits", x.count(9), 0);
        Due.feed(x, "9");
        due.due("THE TAPE: k+9", x.text(1), 1);
        due.due("law of THE TAPE", x.law(1, 3, 0, 0), 12);
        due.due("a new FLYER is as at first", x.flyer(0), 2);
        due.due("its TURNS", x.ofFlyer(2, 2), 1);
        due.due("its GOES", x.ofFlyer(2, 3), 0);
    }

    private static void notKept() {
        CatchBars x = new CatchBars();
        x.flyer(0);
        x.image();
        Due.fill(x, 0, 8, 3);
        x.voice(0, 1, 1);
        x.go(9);
        x.restore();
        due.due("SHEETS stay", x.turns(0), 1);
        due.due("TURNS", x.ofFlyer(0, 2), 3);
        due.due("THE TRACE stays", x.count(10), 2);
        due.due("THE TRACE stays", x.trace(1), 10);
        due.due("told(1) stays", x.told(1), 1);
        due.due("how often stays", x.image(), 2);
        // A law that stands at first is kept, too.
        CatchBars y = new CatchBars();
        y.image();
        Due.text(y, 0, "9");
        Due.text(y, 1, "9");
        y.restore();
        due.due("FLIGHT at first", y.law(0, 1, 0, 0), 5);
        due.due("AIR at first", y.law(1, 1, 0, 0), 28);
    }

    private static void staysAndIsReplaced() {
        CatchBars x = new CatchBars();
        x.flyer(0);
        x.ticks(1);
        x.image();
        x.ticks(1);
        due.due("restore()", x.restore(), 1);
        x.ticks(7);
        x.go(0);
        x.turn(0, 2);
        due.due("it stays", x.restore(), 1);
        due.due("TURNS", x.ofFlyer(0, 2), 1);
        due.due("GOES", x.ofFlyer(0, 3), 0);
        x.ticks(9);
        due.due("in place of it", x.image(), 2);
        x.ticks(9);
        due.due("restore()", x.restore(), 10);
    }
}
