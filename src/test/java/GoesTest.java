/** Promises 13 to 16: go, ticks, evenings, rest. */
public final class GoesTest {
    private static final int MIN = Integer.MIN_VALUE;
    private static final int MAX = Integer.MAX_VALUE;
    private static final Due due = new Due("GoesTest");

    public static void main(String[] args) {
        go();
        tiredGoes();
        lags();
        most();
        ticks();
        evenings();
        eveningsAsThought();
        eveningsOfMany();
        eveningsAtTheEnd();
        rest();
        due.end();
    }

    private static void counts(String when, CatchBars x, int tick, int catches, int falls, int hurt) {
        due.due(when + ", TICK", x.count(1), tick);
        due.due(when + ", CATCHES", x.count(2), catches);
        due.due(when + ", FALLS", x.count(3), falls);
        due.due(when + ", HURT", x.count(4), hurt);
    }

    private static void go() {
        CatchBars x = Due.plain(0);
        x.flyer(0);
        due.due("a fall at 20, NET 30", x.go(0), 11);
        counts("a fall", x, 0, 0, 1, 10);
        due.due("GOES", x.ofFlyer(0, 3), 1);
        due.due("GOES of the other", x.ofFlyer(1, 3), 0);
        x.ticks(1);
        due.due("a catch", x.go(0), 0);
        counts("a catch", x, 1, 1, 1, 10);
        due.due("GOES", x.ofFlyer(0, 3), 2);
        x.ticks(1);
        due.due("a fall at -20", x.go(1), 51);
        counts("a fall", x, 2, 1, 2, 60);
        x.set(2, -20);
        due.due("a fall right at the NET", x.go(1), 1);
        counts("a fall", x, 2, 1, 3, 60);
        x.set(1, 30);
        x.swing(1, 1, 10);
        due.due("OFF -30 at REACH 30", x.go(0), 0);
        x.set(1, 29);
        due.due("OFF -30 at REACH 29", x.go(0), 1);
        x.set(0, 60);
        x.set(1, 30);
        x.ticks(2);
        due.due("OFF -30, too: 20 less 60 and 10", x.go(0), 0);
        x.set(1, 29);
        due.due("by a KIND that HOLDS more", x.become(0, 10), 0);
        due.due("OFF -30 at REACH 29 and 1", x.go(0), 0);
        due.dueForAll("go", Due.BEYOND, f -> x.go(f), -1, 2, 6, MIN, MAX);
        counts("after ERRORS", x, 4, 4, 4, 60);
    }

    /** HARM, LAG, HOLDS are those of the GOES ahead of this one. */
    private static void tiredGoes() {
        CatchBars x = Due.plain(31);
        x.flyer(60);
        due.due("first", x.go(0), 11);
        due.due("second", x.go(0), 12);
        due.due("third: 2 is above m, it lets go at 1", x.go(0), 0);
        x.ticks(3);
        due.due("fourth, told at 3", x.go(0), 14);
        due.due("GOES", x.ofFlyer(0, 3), 4);
        due.due("NETTED, first, told at 3", x.go(1), 0);
        due.due("NETTED, second", x.go(1), 6);
        x.set(2, 29);
        due.due("NETTED, third: 9 and 2, half", x.go(1), 6);
        due.due("NETTED, fourth: 9 and 3, half", x.go(1), 7);
        counts("those who tire", x, 3, 2, 6, 10 + 11 + 13 + 5 + 5 + 6);
        x.set(1, 0);
        x.ticks(1);
        due.due("OFF 0, HOLDS of 0 at least", x.go(1), 0);
    }

    private static void lags() {
        CatchBars x = Due.plain(20);
        due.due("CALLED, LAG 1", x.go(0), 0);
        x.become(0, 21);
        due.due("CALLED, LAG 2: at -20", x.go(0), 51);
        x.become(0, 22);
        due.due("CALLED, LAG 3", x.go(0), 0);
        x.become(0, 50);
        due.due("HUP, LAG 0", x.go(0), 11);
        x.become(0, 58);
        due.due("HUP, LAG 2", x.go(0), 51);
    }

    private static void most() {
        CatchBars x = Due.plain(0);
        x.swing(0, 1, 60);
        x.swing(0, 2, 2);
        x.set(2, 299);
        Due.text(x, 1, "0-99");
        for (int i = 0; i < 98; i++) {
            x.go(0);
        }
        due.due("GOES", x.ofFlyer(0, 3), 98);
        due.due("a far fall", x.go(0), 1 + 299 + 159);
        due.due("GOES", x.ofFlyer(0, 3), 99);
        x.go(0);
        due.due("GOES at most", x.ofFlyer(0, 3), 99);
        due.due("HURT", x.count(4), 100 * 458);
        for (int i = 0; i < 118; i++) {
            x.go(0);
        }
        due.due("HURT", x.count(4), 218 * 458);
        x.set(2, -4);
        due.due("a fall by 155", x.go(0), 156);
        due.due("HURT at most", x.count(4), 218 * 458 + 155);
        x.go(0);
        due.due("HURT at most", x.count(4), 99999);
        due.due("FALLS", x.count(3), 220);
        due.due("rest", x.rest(), 99);
    }

    private static void ticks() {
        CatchBars x = new CatchBars();
        due.due("ticks(1)", x.ticks(1), 1);
        due.due("ticks(200)", x.ticks(200), 201);
        due.dueForAll("ticks", Due.BEYOND, n -> x.ticks(n), 0, 201, -1, MIN, MAX);
        for (int i = 2; i < 50; i++) {
            x.ticks(200);
        }
        due.due("count(1)", x.count(1), 9801);
        due.due("above 9999", x.ticks(199), Due.STATE);
        due.due("BEYOND is asked ahead of STATE", x.ticks(201), Due.BEYOND);
        due.due("count(1)", x.count(1), 9801);
        due.due("just 9999", x.ticks(198), 9999);
        due.due("one more", x.ticks(1), Due.STATE);
        due.due("told(3)", x.told(3), 2);
        x.flyer(0);
        due.due("at TICK 9999", x.then(0, 60, 2), 9999 + 60 + 5);
    }

    /**
     * A world that tells TICKS to come from those that went: BARS are 0, -20, 0, 20 from TICK 0 on, and
     * only where both are 20 is the GAP of 40 closed.
     */
    private static CatchBars lopsided() {
        CatchBars x = Due.plain();
        x.swing(0, 2, 1);
        x.swing(1, 2, 1);
        x.set(0, 40);
        return x;
    }

    /** In a lopsided world, by the rest of the TICK by 4: HARM of a fall, or 0 for a catch. */
    private static final int[] HARMS = {30, 50, 30, 0};

    private static void evenings() {
        CatchBars x = lopsided();
        x.flyer(0);
        int z = 1;
        int catches = 0;
        int falls = 0;
        int hurt = 0;
        for (int i = 1; i <= 30; i++) {
            z = z * 1103515245 + 12345;
            int harm = HARMS[(z >>> 8) % 12 % 4];
            catches += harm == 0 ? 1 : 0;
            falls += harm == 0 ? 0 : 1;
            hurt += harm;
            due.due("evenings(1), the " + i + ". time", x.evenings(1), catches);
            counts("evening " + i, x, 12 * i, catches, falls, hurt);
            due.due("z", x.count(11), z);
        }
        due.due("some were caught", catches > 3 && falls > 3 ? 1 : 0, 1);
        due.due("GOES", x.ofFlyer(0, 3), 30);
        CatchBars y = lopsided();
        y.flyer(0);
        due.due("evenings(30)", y.evenings(30), catches);
        counts("30 evenings", y, 360, catches, falls, hurt);
        due.due("z", y.count(11), z);
        due.dueForAll("evenings", Due.BEYOND, n -> y.evenings(n), 0, 41, -1, MIN, MAX);
        due.due("z after ERRORS", y.count(11), z);
        // By hand: z 1 makes 1103527590, which gives 4310654, whose rest by 12 is 2.
        CatchBars first = Due.plain(0);
        first.evenings(1);
        due.due("by hand, z", first.count(11), 1103527590);
        due.due("by hand, HURT", first.count(4), 50);
    }

    /** Each evening as then() tells it ahead, with the SWINGS as at first, whose PERIOD tells all 12 apart. */
    private static void eveningsAsThought() {
        CatchBars x = new CatchBars();
        x.flyer(19);
        x.swing(0, 2, 5);
        x.swing(1, 0, 11);
        int z = -123456789;
        x.seed(z);
        int catches = 0;
        int hurt = 0;
        for (int i = 0; i < 60; i++) {
            z = z * 1103515245 + 12345;
            int wait = (z >>> 8) % 12;
            int caught = x.then(0, wait, 1);
            catches += caught;
            hurt += caught == 1 ? 0 : x.then(0, wait, 4);
            due.due("evenings(1) as thought", x.evenings(1), catches);
            due.due("HURT as thought", x.count(4), hurt);
        }
        due.due("some were caught", catches > 3 && catches < 57 ? 1 : 0, 1);
    }

    /** A draw for each FLYER, by numbers; TICK goes on when all have gone. */
    private static void eveningsOfMany() {
        CatchBars x = lopsided();
        int z = 77;
        x.seed(z);
        // NETTED ones have half of the HARM, and of one more at their second GO, and so on.
        x.flyer(0);
        x.flyer(60);
        x.flyer(0);
        x.flyer(69);
        int caught = 0;
        int hurt = 0;
        for (int evening = 0; evening < 2; evening++) {
            for (int i = 0; i < 4; i++) {
                z = z * 1103515245 + 12345;
                int told = (z >>> 8) % 12 + (i == 1 && evening > 0 ? 1 : 0);
                int harm = HARMS[told % 4];
                caught += harm == 0 ? 1 : 0;
                hurt += harm == 0 ? 0 : i % 2 == 0 ? harm : (harm + evening) / 2;
            }
        }
        due.due("evenings(2) of 4", x.evenings(2), caught);
        counts("2 evenings of 4", x, 24, caught, 8 - caught, hurt);
        due.due("z", x.count(11), z);
        due.due("rest()", x.rest(), 8);
        CatchBars no = Due.plain();
        due.due("evenings(40) of none", no.evenings(40), 0);
        counts("40 evenings of none", no, 480, 0, 0, 0);
        due.due("no draw", no.count(11), 1);
    }

    private static void eveningsAtTheEnd() {
        CatchBars x = Due.plain();
        for (int i = 0; i < 20; i++) {
            x.evenings(40);
        }
        x.ticks(195);
        due.due("TICK", x.count(1), 9795);
        due.due("18 more", x.evenings(18), Due.STATE);
        due.due("TICK", x.count(1), 9795);
        due.due("41 more", x.evenings(41), Due.BEYOND);
        due.due("17 more", x.evenings(17), 0);
        due.due("TICK", x.count(1), 9999);
        due.due("one more", x.evenings(1), Due.STATE);
    }

    private static void rest() {
        CatchBars x = Due.plain(0);
        x.flyer(39);
        due.due("rest, no GOES", x.rest(), 0);
        x.go(0);
        x.go(1);
        x.go(1);
        due.due("rest", x.rest(), 3);
        due.due("GOES", x.ofFlyer(0, 3), 0);
        due.due("GOES", x.ofFlyer(1, 3), 0);
        due.due("FALLS stay", x.count(3), 3);
        due.due("rest again", x.rest(), 0);
        due.due("rest of none", new CatchBars().rest(), 0);
    }
}
