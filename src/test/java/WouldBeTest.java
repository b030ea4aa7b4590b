/** Promises 17 to 27: then, can, surest, odds, pumped, inStep, mend, again, net, phases, late. */
public final class WouldBeTest {
    private static final int MIN = Integer.MIN_VALUE;
    private static final int MAX = Integer.MAX_VALUE;
    private static final Due due = new Due("WouldBeTest");

    public static void main(String[] args) {
        then();
        can();
        surestAndOdds();
        slips();
        pumped();
        inStep();
        mend();
        again();
        net();
        phases();
        late();
        ahead();
        anew();
        thoughtOnly();
        due.end();
    }

    private static void then() {
        CatchBars x = Due.plain(0);
        Due.text(x, 1, "v");
        int[][] rows = {
            // n, OFF, CAUGHT, comes, place, HARM with NET 30
            {0, 60, 0, 4, 40, 10}, {1, -20, 0, 5, -20, 50}, {2, -60, 0, 6, -40, 70}, {3, 20, 0, 7, 20, 10},
            {60, 60, 0, 64, 40, 10},
        };
        for (int[] row : rows) {
            for (int what = 0; what < 5; what++) {
                due.due("then(0, " + row[0] + ", " + what + ")", x.then(0, row[0], what), row[what + 1]);
            }
        }
        x.set(1, 20);
        due.due("caught at 3", x.then(0, 3, 1), 1);
        due.due("HARM even so", x.then(0, 3, 4), 10);
        due.due("caught at 1", x.then(0, 1, 1), 1);
        x.set(1, 19);
        due.due("not caught at 3", x.then(0, 3, 1), 0);
        x.ticks(3);
        due.due("from now on", x.then(0, 0, 0), 20);
        due.due("from now on", x.then(0, 1, 2), 8);
        x.become(0, 22);
        due.due("LAG 3: lets go at 6", x.then(0, 0, 2), 10);
        due.due("LAG 3: OFF", x.then(0, 0, 0), -60);
        x.become(0, 64);
        due.due("NETTED: half of 10", x.then(0, 1, 4), 5);
        x.set(0, 100);
        due.due("less where THE CATCHER is", x.then(0, 1, 0), 40 - (100 - 20));
        due.dueForAll("then's flyer", Due.BEYOND, f -> x.then(f, 0, 0), -1, 1, MIN, MAX);
        due.dueForAll("then's n", Due.BEYOND, n -> x.then(0, n, 0), -1, 61, MIN, MAX);
        due.dueForAll("then's what", Due.BEYOND, w -> x.then(0, 0, w), -1, 5, MIN, MAX);
    }

    private static void can() {
        CatchBars x = Due.plain(0);
        due.due("can by 60", x.can(0, 60, 0), 30);
        due.due("can by 59", x.can(0, 59, 0), 29);
        due.due("can by 2", x.can(0, 2, 0), 1);
        due.due("can by 1", x.can(0, 1, 0), 0);
        due.due("NEXT by 1", x.can(0, 1, 1), Due.NONE);
        due.due("NEXT by 2", x.can(0, 2, 1), 1);
        x.ticks(1);
        due.due("NEXT is now", x.can(0, 1, 1), 0);
        due.due("can by 1", x.can(0, 1, 0), 1);
        x.swing(0, 0, 40);
        x.swing(1, 0, 40);
        Due.text(x, 0, "v*0+20");
        x.set(1, 0);
        // OFF is BAR and BAR half a PERIOD later: always 0, as 20 goes into 40 without a rest.
        due.due("can by 60, opposite", x.can(0, 60, 0), 60);
        x.swing(0, 1, 22);
        due.due("can by 60, wider", x.can(0, 60, 0), countByThen(x));
        due.due("not all of them", x.can(0, 60, 0) < 60 ? 1 : 0, 1);
        due.dueForAll("can's flyer", Due.BEYOND, f -> x.can(f, 1, 0), -1, 1, MIN, MAX);
        due.dueForAll("can's n", Due.BEYOND, n -> x.can(0, n, 1), 0, 61, -1, MIN, MAX);
        due.dueForAll("can's what", Due.BEYOND, w -> x.can(0, 1, w), -1, 2, MIN, MAX);
        due.due("told(2)", x.told(2), 1);
    }

    private static int countByThen(CatchBars x) {
        int many = 0;
        for (int n = 0; n < 60; n++) {
            many += x.then(0, n, 1);
        }
        return many;
    }

    private static void odds(CatchBars x, int n, int above, int below) {
        due.due("odds(0, " + n + ", 0)", x.odds(0, n, 0), above);
        due.due("odds(0, " + n + ", 1)", x.odds(0, n, 1), below);
    }

    private static void surestAndOdds() {
        CatchBars x = Due.plain(0);
        // OFF is BAR(t + slip) and BAR(t + slip + ahead); at TICK 0 it lets go at -1, too.
        odds(x, 0, 2, 9);
        odds(x, 1, 1, 9);
        odds(x, 60, 2, 9);
        due.due("surest by 4", x.surest(0, 4), 0);
        x.set(1, 20);
        odds(x, 0, 8, 9);
        odds(x, 1, 7, 9);
        odds(x, 2, 8, 9);
        x.set(1, 19);
        x.ticks(1);
        due.due("surest by 1", x.surest(0, 1), 0);
        due.due("surest by 2", x.surest(0, 2), 1);
        due.due("surest by 60: the first of several", x.surest(0, 60), 1);
        x.swing(0, 1, 1);
        x.swing(1, 1, 1);
        odds(x, 0, 1, 1);
        due.due("surest when all are sure", x.surest(0, 60), 0);
        x.set(0, 100);
        odds(x, 0, 0, 1);
        due.due("surest when none is", x.surest(0, 60), 0);
        due.dueForAll("surest's flyer", Due.BEYOND, f -> x.surest(f, 1), -1, 1, MIN, MAX);
        due.dueForAll("surest's n", Due.BEYOND, n -> x.surest(0, n), 0, 61, -1, MIN, MAX);
        due.dueForAll("odds' flyer", Due.BEYOND, f -> x.odds(f, 1, 0), -1, 1, MIN, MAX);
        due.dueForAll("odds' n", Due.BEYOND, n -> x.odds(0, n, 0), -1, 61, MIN, MAX);
        due.dueForAll("odds' part", Due.BEYOND, p -> x.odds(0, 0, p), -1, 2, MIN, MAX);
    }

    /** Slips change v, FLIGHT and AIR, too, as what is at the TICK of letting go. */
    private static void slips() {
        CatchBars x = Due.plain(0);
        x.swing(1, 1, 1);
        x.set(0, 20);
        x.set(1, 1);
        Due.text(x, 1, "(v=20)*20");
        // Places by where it lets go: 0: 40, 1: 0, 2: -20, 3: 20. THE CATCHER: 19, 20, 21, 20 from 0 on.
        due.due("caught at 3 alone", x.can(0, 4, 0), 1);
        due.due("NEXT", x.can(0, 4, 1), 3);
        odds(x, 0, 1, 3);
        odds(x, 1, 0, 1);
        odds(x, 2, 1, 3);
        odds(x, 3, 1, 3);
        due.due("surest by 4", x.surest(0, 4), 0);
        x.set(1, 0);
        // Comes at 7 (THE CATCHER at 20): a TICK sooner or later he is at 19 or 21.
        odds(x, 3, 1, 9);
        Due.text(x, 0, "4+(v=20)");
        // Comes at 8 now, where he is at 19; a TICK sooner or later at 20.
        odds(x, 3, 2, 9);
        due.due("caught at 3 no more", x.can(0, 4, 0), 0);
    }

    private static void pumped() {
        CatchBars x = Due.plain(0);
        x.swing(1, 1, 10);
        x.set(0, 30);
        x.set(1, 0);
        due.due("it fits already", x.pumped(0, 1), 0);
        x.set(0, 35);
        due.due("5 PUMPS", x.pumped(0, 1), 5);
        x.set(1, 2);
        due.due("3 PUMPS at REACH 2", x.pumped(0, 1), 3);
        x.set(1, 0);
        x.set(0, 70);
        due.due("40 PUMPS", x.pumped(0, 1), 40);
        x.set(0, 71);
        due.due("60 at most", x.pumped(0, 60), Due.NONE);
        x.set(0, 70);
        x.swing(0, 1, 1);
        due.due("59 PUMPS", x.pumped(0, 1), 59);
        x.ticks(1);
        due.due("not by 3 from 1 on", x.pumped(0, 3), Due.NONE);
        due.due("but by 4", x.pumped(0, 4), 59);
        x.swing(0, 1, 60);
        due.due("as wide as can be", x.pumped(0, 4), 0);
        due.due("told(2)", x.told(2), 2);
        due.dueForAll("pumped's flyer", Due.BEYOND, f -> x.pumped(f, 1), -1, 1, MIN, MAX);
        due.dueForAll("pumped's n", Due.BEYOND, n -> x.pumped(0, n), 0, 61, -1, MIN, MAX);
    }

    private static void inStep() {
        CatchBars x = Due.plain(0);
        x.swing(1, 1, 10);
        x.set(0, 30);
        x.set(1, 0);
        int[] steps = {0, 3, 2, 1};
        for (int phase = 0; phase < 4; phase++) {
            x.swing(1, 2, phase);
            due.due("PHASE " + phase, x.inStep(0, 1), steps[phase]);
        }
        x.set(0, 31);
        due.due("by none", x.inStep(0, 60), Due.NONE);
        x.set(0, 40);
        x.swing(1, 0, 40);
        x.swing(1, 1, 20);
        x.swing(1, 2, 37);
        due.due("39 steps", x.inStep(0, 1), 39);
        x.swing(1, 2, 36);
        due.due("0 steps", x.inStep(0, 1), 0);
        x.swing(1, 2, 0);
        due.due("36 steps", x.inStep(0, 1), 36);
        due.due("32 steps, as one is caught 4 TICKS later, too", x.inStep(0, 5), 32);
        due.due("told(2)", x.told(2), 1);
        due.dueForAll("inStep's flyer", Due.BEYOND, f -> x.inStep(f, 1), -1, 1, MIN, MAX);
        due.dueForAll("inStep's n", Due.BEYOND, n -> x.inStep(0, n), 0, 61, -1, MIN, MAX);
    }

    private static void mend() {
        CatchBars x = Due.plain(0);
        due.due("OFF 40 as it is", x.mend(0, 0, 0, 0), 40);
        due.due("less 12 and 16", x.mend(0, 0, 3, 4), 12);
        Due.text(x, 1, "3");
        due.due("OFF 43 less 4 and 4", x.mend(0, 0, 1, 1), 35);
        due.due("OFF 43 less 38 and 38", x.mend(0, 0, 9, 9), -33);
        due.due("OFF -37 and 3", x.mend(0, 2, 1, 0), -34);
        due.due("OFF -37 and 33", x.mend(0, 2, 0, 9), -4);
        due.due("OFF -37 and 18 and 3", x.mend(0, 2, 5, 1), -16);
        due.due("OFF 3", x.mend(0, 1, 3, 4), 2);
        due.due("at 60", x.mend(0, 60, 0, 0), 43);
        x.become(0, 21);
        due.due("LAG 2", x.mend(0, 0, 0, 0), -37);
        due.dueForAll("mend's flyer", Due.BEYOND, f -> x.mend(f, 0, 0, 0), -1, 1, MIN, MAX);
        due.dueForAll("mend's n", Due.BEYOND, n -> x.mend(0, n, 0, 0), -1, 61, MIN, MAX);
        due.dueForAll("mend's a", Due.BEYOND, a -> x.mend(0, 0, a, 0), -1, 10, MIN, MAX);
        due.dueForAll("mend's b", Due.BEYOND, b -> x.mend(0, 0, 0, b), -1, 10, MIN, MAX);
    }

    private static void again(CatchBars x, int n, int g, int h, long above, long below) {
        String call = "again(0, " + n + ", " + g + ", " + h + ")";
        due.due(call + " above", x.again(0, n, g, h, 0), above);
        due.due(call + " below", x.again(0, n, g, h, 1), below);
    }

    private static void again() {
        CatchBars x = Due.plain(0);
        x.set(1, 20);
        // 8 of 9: once more is worth 8g - h ninths, if that is above 0.
        again(x, 1, 10, 5, 250, 27);
        again(x, 4, 10, 5, 250, 27);
        again(x, 4, 0, 9, -1, 1);
        again(x, 4, 1, 8, 0, 1);
        again(x, 4, 1, 20, -4, 3);
        again(x, 4, 0, 0, 0, 1);
        again(x, 4, 99, 0, 9 * 8 * 11 + 8 * 11, 9);
        x.ticks(1);
        // 7 of 9 now; by 2 the SUREST is the next TICK, with 8 of 9.
        again(x, 1, 9, 9, 55, 9);
        again(x, 2, 10, 5, 250, 27);
        x.set(0, 200);
        again(x, 60, 99, 99, -99, 1);
        again(x, 60, 99, 0, 0, 1);
        x.set(0, 0);
        x.set(1, 30);
        x.swing(0, 1, 5);
        x.swing(1, 1, 5);
        again(x, 60, 99, 99, 99, 1);
        due.dueForAll("again's flyer", Due.BEYOND, f -> x.again(f, 1, 0, 0, 0), -1, 1, MIN, MAX);
        due.dueForAll("again's n", Due.BEYOND, n -> x.again(0, n, 0, 0, 0), 0, 61, -1, MIN, MAX);
        due.dueForAll("again's g", Due.BEYOND, g -> x.again(0, 1, g, 0, 0), -1, 100, MIN, MAX);
        due.dueForAll("again's h", Due.BEYOND, h -> x.again(0, 1, 0, h, 0), -1, 100, MIN, MAX);
        due.dueForAll("again's part", Due.BEYOND, p -> x.again(0, 1, 0, 0, p), -1, 2, MIN, MAX);
    }

    private static void net(CatchBars x, int n, int place, int harm) {
        due.due("net(0, " + n + ", 0)", x.net(0, n, 0), place);
        due.due("net(0, " + n + ", 1)", x.net(0, n, 1), harm);
    }

    private static void net() {
        CatchBars x = Due.plain(0);
        net(x, 1, 20, 0);
        net(x, 2, 20, 0);
        net(x, 4, -20, 40);
        net(x, 5, 20, 40);
        net(x, 60, -20, 600);
        x.become(0, 60);
        net(x, 4, -19, 19);
        x.go(0);
        x.become(0, 39);
        net(x, 4, -20, 42);
        x.ticks(1);
        due.due("no fall", x.net(0, 1, 0), Due.NONE);
        due.due("no fall", x.net(0, 1, 1), Due.NONE);
        due.due("told(2)", x.told(2), 2);
        x.become(0, 0);
        x.ticks(1);
        x.swing(0, 1, 60);
        Due.text(x, 1, "0-99");
        net(x, 1, -99, 60);
        x.swing(0, 1, 59);
        net(x, 1, -99, 59);
        Due.text(x, 1, "0-39");
        net(x, 1, -98, 0);
        x.swing(0, 1, 1);
        x.swing(0, 2, 2);
        Due.text(x, 1, "99");
        x.set(1, 0);
        net(x, 1, 100, 0);
        due.due("NET is as it was", x.count(7), 30);
        due.dueForAll("net's flyer", Due.BEYOND, f -> x.net(f, 1, 0), -1, 1, MIN, MAX);
        due.dueForAll("net's n", Due.BEYOND, n -> x.net(0, n, 0), 0, 61, -1, MIN, MAX);
        due.dueForAll("net's what", Due.BEYOND, w -> x.net(0, 1, w), -1, 2, MIN, MAX);
    }

    private static void phases(CatchBars x, int sheet, int least, int many) {
        due.due("phases(0, " + sheet + ", 0)", x.phases(0, sheet, 0), least);
        due.due("phases(0, " + sheet + ", 1)", x.phases(0, sheet, 1), many);
    }

    private static void phases() {
        CatchBars x = Due.plain(0);
        phases(x, 0, Due.NONE, Due.NONE);
        Due.fill(x, 0, 8);
        phases(x, 0, 0, 4);
        Due.fill(x, 0, 8, 40, 0);
        phases(x, 0, 0, 1);
        Due.fill(x, 1, 16, 20);
        phases(x, 1, 1, 2);
        Due.fill(x, 2, 32, 20, 20);
        phases(x, 2, 3, 1);
        Due.fill(x, 3, 8, 0);
        phases(x, 3, 2, 1);
        Due.fill(x, 3, 8, 0, 1);
        phases(x, 3, Due.NONE, Due.NONE);
        x.ticks(2);
        Due.fill(x, 3, 8, -40, 0, 40);
        phases(x, 3, 0, 1);
        Due.fill(x, 3, 8, -20);
        phases(x, 3, 1, 2);
        x.swing(1, 2, 3);
        phases(x, 3, 1, 2);
        due.due("PHASE is as it was", x.bar(1, 0), 0);
        due.due("PHASE is as it was", x.bar(1, 1), 20);
        x.swing(1, 0, 40);
        Due.fill(x, 3, 8);
        phases(x, 3, 0, 40);
        // PHASE 39 at 6: 45, the rest 5: BAR 20 * 30 / 20 - 20 is 10.
        Due.fill(x, 3, 8, -10);
        phases(x, 3, 29, 2);
        int[] all = new int[40];
        for (int i = 0; i < 40; i++) {
            all[i] = x.bar(0, 2 + i) + x.bar(1, 2 + i + 4 + 40);
        }
        Due.fill(x, 3, 16, all);
        phases(x, 3, 3, 1);
        due.dueForAll("phases' flyer", Due.BEYOND, f -> x.phases(f, 0, 0), -1, 1, MIN, MAX);
        due.dueForAll("phases' sheet", Due.BEYOND, s -> x.phases(0, s, 0), -1, 4, MIN, MAX);
        due.dueForAll("phases' what", Due.BEYOND, w -> x.phases(0, 0, w), -1, 2, MIN, MAX);
        x.sheet(0, 0, 0);
        due.due("BEYOND is asked ahead of NONE", x.phases(0, 0, 2), Due.BEYOND);
    }

    private static void late() {
        CatchBars x = Due.plain(21);
        due.due("a missing SHEET", x.late(0, 0), Due.NONE);
        Due.fill(x, 0, 8);
        due.due("an empty SHEET", x.late(0, 0), 0);
        Due.fill(x, 0, 8, 40);
        due.due("OFF 40: LAG 0, whatever its own", x.late(0, 0), 0);
        Due.fill(x, 0, 8, 0);
        due.due("OFF 0: LAG 1", x.late(0, 0), 1);
        Due.fill(x, 0, 8, -40);
        due.due("OFF -40: LAG 2", x.late(0, 0), 2);
        Due.fill(x, 0, 8, 0, 40);
        due.due("OFF 0, 40: LAG 3", x.late(0, 0), 3);
        Due.fill(x, 0, 8, 0, 40, 1);
        due.due("by none", x.late(0, 0), Due.NONE);
        x.swing(0, 0, 40);
        x.swing(1, 0, 40);
        Due.fill(x, 0, 32, x.bar(0, 9) + x.bar(1, 13));
        due.due("LAG 9", x.late(0, 0), 9);
        Due.fill(x, 0, 32, x.bar(0, 10) + x.bar(1, 14));
        due.due("LAG 10 is too late", x.late(0, 0), Due.NONE);
        x.ticks(1);
        due.due("from now on", x.late(0, 0), 9);
        due.due("its own LAG is as it was", x.ofFlyer(0, 4), 2);
        due.dueForAll("late's flyer", Due.BEYOND, f -> x.late(f, 0), -1, 1, MIN, MAX);
        due.dueForAll("late's sheet", Due.BEYOND, s -> x.late(0, s), -1, 4, MIN, MAX);
    }

    /** A world in which one is caught at TICK 3 alone (and 7, ..): what comes is not as what went. */
    private static void ahead() {
        CatchBars x = Due.plain(0);
        x.swing(0, 2, 1);
        x.swing(1, 2, 1);
        x.set(0, 40);
        Due.text(x, 1, "v*0");
        due.due("can by 3", x.can(0, 3, 0), 0);
        due.due("NEXT by 4", x.can(0, 4, 1), 3);
        due.due("can by 60", x.can(0, 60, 0), 15);
        due.due("mend at 1", x.mend(0, 1, 0, 0), -80);
        due.due("mend at 3", x.mend(0, 3, 0, 0), 0);
        due.due("odds at 1", x.odds(0, 1, 0), 0);
        due.due("odds at 3", x.odds(0, 3, 0), 1);
        due.due("surest by 4: at 0 a slip helps", x.surest(0, 4), 0);
        again(x, 3, 9, 9, -7, 1);
        again(x, 4, 90, 0, 170, 9);
        // Falls at 0, -20, 0 or, if one looked back, at 0, 20, 0.
        net(x, 2, -20, 20);
        net(x, 3, 0, 20);
        due.due("inStep by 1", x.inStep(0, 1), Due.NONE);
        due.due("inStep by 4", x.inStep(0, 4), 0);
        Due.text(x, 1, "(v+1<0)*40");
        x.set(1, 0);
        due.due("lets go at 0: 40, at 1: 20, at 2: 0, at 3: 20", x.then(0, 0, 3), 40);
        due.due("caught at 0: 40 less 40", x.then(0, 0, 1), 1);
        due.due("odds of 1", x.odds(0, 1, 0), 1);
        due.due("odds of 1", x.odds(0, 1, 1), 9);
        due.due("odds of 2", x.odds(0, 2, 0), 1);
        due.due("odds of 3", x.odds(0, 3, 0), 2);
        x.ticks(1);
        due.due("surest of 1 and 2", x.surest(0, 2), 0);
        due.due("surest of 1 to 3", x.surest(0, 3), 2);
        x.ticks(1);
        due.due("surest of 2 and 3", x.surest(0, 2), 1);
        again(x, 2, 0, 9, -7, 1);
    }

    /** Each act thinks of the FLYER that it is asked of, and of the SWINGS as they are. */
    private static void anew() {
        CatchBars x = Due.plain(0);
        x.flyer(20);
        x.flyer(0);
        Due.fill(x, 0, 8, 40);
        Due.fill(x, 1, 8, 0);
        for (int f = 0; f < 3; f++) {
            int lag = f % 2;
            x.go(9);
            due.due("then of " + f, x.then(f, 0, 0), 40 - 40 * lag);
            due.due("can of " + f, x.can(other(f), 1, 0), 1 - lag);
            due.due("can of " + f, x.can(f, 1, 0), lag);
            due.due("surest of " + f, x.surest(other(f), 2), 1 - lag);
            due.due("surest of " + f, x.surest(f, 2), lag);
            due.due("odds of " + f, x.odds(other(f), 0, 0), 1 + lag);
            due.due("odds of " + f, x.odds(f, 0, 0), 2 - lag);
            due.due("mend of " + f, x.mend(other(f), 0, 0, 0), 40 * lag);
            due.due("mend of " + f, x.mend(f, 0, 0, 0), 40 - 40 * lag);
            due.due("again of " + f, x.again(other(f), 1, 0, 9, 1), 1);
            due.due("again of " + f, x.again(f, 1, 0, 9, 0), lag == 1 ? -8 : -7);
            due.due("net of " + f, x.net(other(f), 2, 0), -20 + 40 * lag);
            due.due("net of " + f, x.net(f, 2, 0), 20 - 40 * lag);
            due.due("pumped of " + f, x.pumped(other(f), 1), lag == 1 ? Due.NONE : 0);
            due.due("pumped of " + f, x.pumped(f, 1), lag == 1 ? 0 : Due.NONE);
            due.due("inStep of " + f, x.inStep(other(f), 1), lag == 1 ? 2 : 0);
            due.due("inStep of " + f, x.inStep(f, 1), lag == 1 ? 0 : 2);
            due.due("phases of " + f, x.phases(f, 0, 0), lag == 1 ? Due.NONE : 0);
            due.due("phases of " + f, x.phases(f, 1, 0), lag == 1 ? 0 : 2);
            due.due("late of " + f, x.late(f, 1), 1);
            due.due("late, and what comes behind it", x.then(f, 0, 2), 4 + lag);
        }
        x.swing(0, 1, 10);
        due.due("then of a new WIDTH", x.then(0, 0, 0), 30);
        x.swing(0, 1, 20);
        due.due("mend of the old WIDTH", x.mend(0, 0, 0, 0), 40);
        x.swing(1, 2, 2);
        due.due("can of a new PHASE", x.can(0, 1, 0), 1);
        x.swing(1, 2, 0);
        due.due("surest of the old PHASE", x.surest(0, 2), 0);
    }

    private static int other(int f) {
        return f == 1 ? 0 : 1;
    }

    /** What is thought changes neither SWINGS nor FLYERS nor counts. */
    private static void thoughtOnly() {
        CatchBars x = Due.plain(31);
        Due.fill(x, 0, 8, 0);
        x.ticks(1);
        x.then(0, 5, 1);
        x.can(0, 60, 0);
        x.surest(0, 60);
        x.odds(0, 7, 0);
        x.set(0, 55);
        x.pumped(0, 60);
        x.inStep(0, 60);
        x.mend(0, 3, 4, 5);
        x.again(0, 60, 9, 9, 0);
        x.net(0, 60, 0);
        x.phases(0, 0, 1);
        x.late(0, 0);
        due.due("GOES", x.ofFlyer(0, 3), 0);
        due.due("TICK", x.count(1), 1);
        due.due("CATCHES", x.count(2), 0);
        due.due("FALLS", x.count(3), 0);
        due.due("HURT", x.count(4), 0);
        due.due("GAP", x.count(5), 55);
        due.due("NET", x.count(7), 30);
        due.due("z", x.count(11), 1);
        for (int s = 0; s < 2; s++) {
            due.due("PERIOD", x.swing(s, 0, 4), 4);
            due.due("WIDTH", x.swing(s, 1, 20), 20);
            due.due("PHASE", x.swing(s, 2, 0), 0);
        }
    }
}
