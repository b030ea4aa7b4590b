import java.util.ArrayList;
import java.util.List;
import java.util.function.Supplier;

/**
 * An object of which nothing is as at first, made by the same calls each time; all that can be seen
 * of an object; and what the tests of edges ask by these two.
 */
final class Scene {
    static final int MIN = Integer.MIN_VALUE;
    static final int MAX = Integer.MAX_VALUE;

    interface Act {
        long on(CatchBars x);
    }

    /** An act of which one argument is asked. */
    interface Asked {
        long on(CatchBars x, int v);
    }

    private final Due due;

    Scene(Due due) {
        this.due = due;
    }

    /** Six FLYERS, TEXTS, an IMAGE of what was ahead, SHEETS (3 is missing), what waits, a TAPE, a TRACE. */
    static CatchBars rich() {
        CatchBars x = new CatchBars();
        int[] sixteens = {16, 33, 5};
        int[] nines = {9, 44, 7};
        for (int what = 0; what < 3; what++) {
            x.swing(0, what, sixteens[what]);
            x.swing(1, what, nines[what]);
        }
        for (int km : new int[] {3, 14, 25, 31, 48, 66}) {
            x.flyer(km);
        }
        x.set(0, 61);
        x.set(1, 7);
        x.set(2, -9);
        Due.text(x, 0, "k+m*2+4");
        Due.text(x, 1, "v-m+k*9");
        x.turn(1, 2);
        x.turn(4, 3);
        x.ticks(7);
        goes(x, 0, 3, 3, 5);
        tellBars(x, 7, 2);
        Due.feed(x, "m");
        x.image();
        x.check();
        x.ticks(5);
        goes(x, 1, 3, 5);
        x.become(2, 27);
        tellBars(x, 12, 3);
        Due.feed(x, "*v+k");
        x.seed(-77);
        x.set(2, -5);
        Due.fill(x, 0, 8, 1, 2, 3, 1, 2, 3);
        Due.fill(x, 1, 16, 3, 2, 1);
        x.sheet(2, 32, 40);
        x.put(2, 0, 2);
        x.voice(4, 3, 9);
        x.go(9);
        x.as(0, 4);
        x.sheet(3, 8, -1);
        x.trace(40);
        return x;
    }

    private static void goes(CatchBars x, int... flyers) {
        for (int f : flyers) {
            x.go(f);
        }
    }

    private static void tellBars(CatchBars x, int tick, int n) {
        for (int i = 0; i < n; i++) {
            x.tell(x.bar(0, tick + i));
        }
    }

    /** As rich(), but with nothing that can't be: TICK, TAPE and what waits are as full as can be. */
    static CatchBars full() {
        CatchBars x = rich();
        for (int i = 0; i < 49; i++) {
            x.ticks(200);
        }
        x.ticks(9999 - 12 - 49 * 200);
        x.check();
        tellBars(x, 9999, 20);
        Due.feed(x, "+1".repeat(22));
        x.feed('1', 1);
        return x;
    }

    /** An object with so many FLYERS, and all else as at first. */
    static CatchBars withFlyers(int n) {
        CatchBars x = new CatchBars();
        for (int i = 0; i < n; i++) {
            x.flyer(i * 11);
        }
        return x;
    }

    /** All that can be seen, told() left out; some 230 calls, after which nothing is as it was. */
    private static List<String> seen(CatchBars x) {
        List<String> all = new ArrayList<>();
        seeWhatAnImageKeeps(x, all, "");
        for (int s = 0; s < 4; s++) {
            seeSheet(x, s, all);
        }
        all.add("restore() " + x.restore());
        seeWhatAnImageKeeps(x, all, "in the IMAGE ");
        all.add("image() " + x.image());
        return all;
    }

    private static void seeWhatAnImageKeeps(CatchBars x, List<String> all, String when) {
        for (int what = 0; what < 12; what++) {
            all.add(when + "count(" + what + ") " + x.count(what));
        }
        for (int i = 0; i < 10; i++) {
            all.add(when + "trace(" + i + ") " + x.trace(i));
        }
        for (int f = 0; f < x.count(0); f++) {
            for (int what = 0; what < 7; what++) {
                all.add(when + "ofFlyer(" + f + ", " + what + ") " + x.ofFlyer(f, what));
            }
        }
        seeLaws(x, all, when);
        all.add(when + "check() " + x.check());
        all.add(when + "text(1) of THE TAPE " + x.text(1));
        seeLaws(x, all, when + "by THE TAPE ");
        for (int s = 0; s < 2; s++) {
            all.add(when + "WIDTH of " + s + " " + x.swing(s, 1, 1));
            all.add(when + "PHASE of " + s + " " + x.swing(s, 2, 0));
            all.add(when + "PERIOD of " + s + " " + x.swing(s, 0, 4));
        }
    }

    private static void seeLaws(CatchBars x, List<String> all, String when) {
        for (int use = 0; use < 2; use++) {
            all.add(when + "law(" + use + ", 2, 3, 4) " + x.law(use, 2, 3, 4));
            all.add(when + "law(" + use + ", 1, -5, 7) " + x.law(use, 1, -5, 7));
        }
    }

    private static void seeSheet(CatchBars x, int s, List<String> all) {
        all.add("judge(" + s + ") " + x.judge(s));
        all.add("turns(" + s + ") " + x.turns(s));
        for (int f = 0; f < x.count(0); f++) {
            all.add("TURNS of " + f + " by SHEET " + s + " " + x.ofFlyer(f, 2));
        }
        for (int i : new int[] {0, 1, 2, 3, 5, 6, 39, 40}) {
            all.add("put(" + s + ", " + i + ", 1) " + x.put(s, i, 1));
        }
        for (int other = 0; other < s; other++) {
            all.add("move(" + s + ", .., " + other + ", ..) " + x.move(s, 0, other, 0, 0));
        }
    }

    /** An act answers an ERROR, which is told, and nothing else is as it would not be without it. */
    void refused(String call, int error, Supplier<CatchBars> maker, Act act) {
        CatchBars x = maker.get();
        CatchBars twin = maker.get();
        due.due(call, act.on(x), error);
        for (int k = 1; k <= 5; k++) {
            int more = error == Due.LOW - k ? 1 : 0;
            due.due(call + ": told(" + k + ")", x.told(k), twin.told(k) + more);
        }
        List<String> of = seen(x);
        List<String> due1 = seen(twin);
        due.due(call + ": as much is seen", of.size(), due1.size());
        for (int i = 0; i < of.size() && i < due1.size(); i++) {
            boolean same = of.get(i).equals(due1.get(i));
            due.due(call + ", " + of.get(i) + " and not as without it: " + due1.get(i), same ? 1 : 0, 1);
        }
    }

    /** An act answers no ERROR, and none is told. */
    void taken(String call, Supplier<CatchBars> maker, Act act) {
        CatchBars x = maker.get();
        int[] told = new int[6];
        for (int k = 1; k <= 5; k++) {
            told[k] = x.told(k);
        }
        due.due(call + " is no ERROR", act.on(x) > Due.LOW ? 1 : 0, 1);
        for (int k = 1; k <= 5; k++) {
            due.due(call + ": told(" + k + ")", x.told(k), told[k]);
        }
    }

    /** The first and the last value are taken, those right outside are BEYOND, and so are the farthest. */
    void range(String what, int low, int high, Supplier<CatchBars> maker, Asked asked) {
        for (int v : new int[] {low, Math.min(low + 1, high), Math.max(low, high - 1), high}) {
            taken(what + " " + v, maker, x -> asked.on(x, v));
        }
        outside(what, low, high, maker, asked);
    }

    /** As range(), where what lies inside may answer another ERROR. */
    void outside(String what, int low, int high, Supplier<CatchBars> maker, Asked asked) {
        for (int v : new int[] {low, high}) {
            due.due(what + " " + v + " is not BEYOND", asked.on(maker.get(), v) == Due.BEYOND ? 1 : 0, 0);
        }
        for (int v : new int[] {low - 1, high + 1, MIN, MAX}) {
            refused(what + " " + v, Due.BEYOND, maker, x -> asked.on(x, v));
        }
    }

    /** The range of a FLYER's number, with none, one and six of them. */
    void flyers(String what, Asked asked) {
        outside(what + ", FLYER of 1", 0, 0, () -> withFlyers(1), asked);
        outside(what + ", FLYER of 6", 0, 5, () -> withFlyers(6), asked);
        for (int f : new int[] {0, 1, -1, MIN, MAX}) {
            refused(what + ", no FLYERS, " + f, Due.BEYOND, CatchBars::new, x -> asked.on(x, f));
        }
        refused(what + ", FLYER of 3", Due.BEYOND, () -> withFlyers(3), x -> asked.on(x, 3));
        refused(what + ", FLYER of 6, rich", Due.BEYOND, Scene::rich, x -> asked.on(x, 6));
    }
}
