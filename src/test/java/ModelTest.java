import java.math.BigInteger;
import java.util.ArrayList;
import java.util.List;
import java.util.Random;

/**
 * Long runs of random calls, each answer against a second writing of the document that shares no
 * code or way of working with the class: TEXTS are cut at their last sign, FAULTS found by a row of
 * what is open, KINDS are classes, fractions are BigIntegers.
 */
public final class ModelTest {
    private static final int RUNS = 500;
    /** What one step of a run calls at most stays within the 512 calls of an object, with these. */
    private static final int CALLS = 460;
    private static final Due due = new Due("ModelTest");

    public static void main(String[] args) {
        for (int run = 0; run < RUNS; run++) {
            new Run(run).all();
        }
        due.end();
    }

    // ---- KINDS as classes

    private static class Plain {
        int n;
        int m;
        int goes;
        List<Integer> seen = new ArrayList<>();

        int lag() { return 0; }
        int holds(int v) { return v; }
        int harm(int v) { return v; }
        int swings(int x) { seen.add(10); return x + n; }
        int flies(int x) { seen.add(11); return swings(x) * 2; }
        int falls(int x) { seen.add(12); return x - m; }
        int tells(int x) { seen.add(13); int a = flies(x); int b = falls(x); return a ^ b; }
    }

    private static class Timed extends Plain {
        @Override int holds(int v) { return v + 1; }
        @Override int swings(int x) { seen.add(20); return super.swings(x) * 3; }
    }

    private static class Called extends Plain {
        @Override int lag() { return 1 + m % 3; }
        @Override int flies(int x) { seen.add(30); int a = super.flies(x); int b = falls(1); return a - b; }
    }

    private static class Tired extends Plain {
        @Override int lag() { return goes > m ? 1 : 0; }
        @Override int holds(int v) { return Math.max(0, super.holds(v) - goes / 3); }
        @Override int harm(int v) { return super.harm(v) + goes; }
        @Override int falls(int x) { seen.add(40); return -super.falls(x); }
    }

    private static class Corrected extends Timed {
        @Override int holds(int v) { return super.holds(v) + m; }
        @Override int tells(int x) { seen.add(50); int a = super.tells(x); int b = swings(2); return a - b; }
    }

    private static class Hup extends Called {
        @Override int lag() { return super.lag() - 1; }
        @Override int flies(int x) { seen.add(60); return super.flies(x + 1); }
    }

    private static class Netted extends Tired {
        @Override int harm(int v) { return super.harm(v) / 2; }
        @Override int falls(int x) { seen.add(70); return super.falls(x) ^ n; }
        @Override int tells(int x) { seen.add(71); int a = flies(x); int b = super.tells(x); return a - b; }
    }

    private static final Class<?>[] CLASSES = {
        Plain.class, Timed.class, Called.class, Tired.class, Corrected.class, Hup.class, Netted.class,
    };

    private static Plain make(int kind) {
        switch (kind) {
            case 0: return new Plain();
            case 1: return new Timed();
            case 2: return new Called();
            case 3: return new Tired();
            case 4: return new Corrected();
            case 5: return new Hup();
            default: return new Netted();
        }
    }

    // ---- TEXTS

    /** -1: it is a TEXT. */
    private static int faultOf(String s) {
        String open = "";
        StringBuilder compared = new StringBuilder("n");
        boolean wantsPart = true;
        int digits = 0;
        for (int i = 0; i < s.length(); i++) {
            char c = s.charAt(i);
            boolean digit = c >= '0' && c <= '9';
            if (wantsPart) {
                if (c == '!' || c == '(') {
                    if (open.length() == 5) {
                        return i;
                    }
                    open += c;
                    if (c == '(') {
                        compared.append('n');
                    }
                } else if (digit || "kvm".indexOf(c) >= 0) {
                    wantsPart = false;
                    digits = digit ? 1 : 4;
                    open = open.replaceAll("!+$", "");
                } else {
                    return i;
                }
            } else if (digit) {
                if (++digits > 4) {
                    return i;
                }
            } else if (c == ')') {
                if (open.isEmpty()) {
                    return i;
                }
                open = open.substring(0, open.length() - 1).replaceAll("!+$", "");
                compared.setLength(compared.length() - 1);
                digits = 4;
            } else if (c != 0 && "|&<=>+-*/%".indexOf(c) >= 0) {
                int last = compared.length() - 1;
                if ("<=>".indexOf(c) >= 0) {
                    if (compared.charAt(last) == 'y') {
                        return i;
                    }
                    compared.setCharAt(last, 'y');
                } else if (c == '|' || c == '&') {
                    compared.setCharAt(last, 'n');
                }
                wantsPart = true;
            } else {
                return i;
            }
        }
        return wantsPart || !open.isEmpty() ? s.length() : -1;
    }

    private static int work(String s, int k, int v, int m) {
        for (String signs : new String[] {"|", "&", "<=>", "+-", "*/%"}) {
            int depth = 0;
            for (int i = s.length() - 1; i > 0; i--) {
                char c = s.charAt(i);
                depth += c == ')' ? 1 : c == '(' ? -1 : 0;
                if (depth == 0 && signs.indexOf(c) >= 0) {
                    return join(work(s.substring(0, i), k, v, m), c, work(s.substring(i + 1), k, v, m));
                }
            }
        }
        char c = s.charAt(0);
        if (c == '!') {
            return work(s.substring(1), k, v, m) == 0 ? 1 : 0;
        }
        if (c == '(') {
            return work(s.substring(1, s.length() - 1), k, v, m);
        }
        return c == 'k' ? k : c == 'v' ? v : c == 'm' ? m : Integer.parseInt(s);
    }

    private static int join(long a, char c, long b) {
        switch (c) {
            case '|': return a != 0 || b != 0 ? 1 : 0;
            case '&': return a != 0 && b != 0 ? 1 : 0;
            case '<': return a < b ? 1 : 0;
            case '=': return a == b ? 1 : 0;
            case '>': return a > b ? 1 : 0;
            case '+': return (int) (a + b);
            case '-': return (int) (a - b);
            case '*': return (int) (a * b);
            case '/': return b == 0 ? 0 : (int) (a / b);
            default: return b == 0 ? 0 : (int) (a % b);
        }
    }

    // ---- the state

    private static final class One {
        int kind;
        int m;
        int turns = 1;
        int goes;

        Plain as(int number) {
            Plain p = make(kind);
            p.n = number;
            p.m = m;
            p.goes = goes;
            return p;
        }
    }

    private static final class State {
        int[][] swings = {{12, 20, 0}, {12, 20, 0}};
        int[] sets = {60, 5, 30};
        int tick;
        int catches;
        int falls;
        int hurt;
        int z = 1;
        List<One> flyers = new ArrayList<>();
        String tape = "";
        String[] texts = new String[2];
        List<Integer> waiting = new ArrayList<>();

        State copy() {
            State s = new State();
            s.swings = new int[][] {swings[0].clone(), swings[1].clone()};
            s.sets = sets.clone();
            s.tick = tick;
            s.catches = catches;
            s.falls = falls;
            s.hurt = hurt;
            s.z = z;
            for (One f : flyers) {
                One g = new One();
                g.kind = f.kind;
                g.m = f.m;
                g.turns = f.turns;
                g.goes = f.goes;
                s.flyers.add(g);
            }
            s.tape = tape;
            s.texts = texts.clone();
            s.waiting = new ArrayList<>(waiting);
            return s;
        }

        int bar(int s, int t) {
            int p = swings[s][0];
            int r = ((t + swings[s][2]) % p + p) % p;
            return 2 * swings[s][1] * Math.abs(r + r - p) / p - swings[s][1];
        }

        int law(int use, int k, int v, int m) {
            int low = use == 0 ? 1 : -99;
            int high = use == 0 ? 30 : 99;
            int w = texts[use] != null ? work(texts[use], k, v, m) : use == 0 ? 3 + k * 2 : v * 3 + 30 - k * 2;
            return w < low ? low : w > high ? high : w;
        }

        /** OFF, whether CAUGHT, the TICK at which it comes, the place, HARM. */
        int[] go(int f, int letsGo, int ahead) {
            One one = flyers.get(f);
            int v = bar(0, letsGo) - bar(0, letsGo - 1);
            int comes = letsGo + law(0, one.turns, v, one.m);
            int place = bar(0, letsGo) + law(1, one.turns, v, one.m);
            int off = place - (sets[0] - bar(1, comes + ahead));
            int caught = Math.abs(off) <= one.as(f).holds(sets[1]) ? 1 : 0;
            return new int[] {off, caught, comes, place, one.as(f).harm(Math.abs(place - sets[2]))};
        }

        int[] told(int f, int t) {
            return go(f, t + flyers.get(f).as(f).lag(), 0);
        }

        int reallyGo(int f, int t) {
            int[] g = told(f, t);
            One one = flyers.get(f);
            one.goes = Math.min(99, one.goes + 1);
            if (g[1] == 1) {
                catches = Math.min(9999, catches + 1);
                return 0;
            }
            falls = Math.min(9999, falls + 1);
            hurt = Math.min(99999, hurt + g[4]);
            return 1 + g[4];
        }

        int next(int f, int n) {
            for (int i = 0; i < n; i++) {
                if (told(f, tick + i)[1] == 1) {
                    return i;
                }
            }
            return Due.NONE;
        }

        int cases(int f, int t) {
            int lag = flyers.get(f).as(f).lag();
            int many = 0;
            for (int nine = 0; nine < 9; nine++) {
                many += go(f, t + lag + nine / 3 - 1, nine % 3 - 1)[1];
            }
            return many;
        }

        int surest(int f, int n) {
            int best = 0;
            for (int i = 1; i < n; i++) {
                best = cases(f, tick + i) > cases(f, tick + best) ? i : best;
            }
            return best;
        }

        boolean asTold(int f, long[] sheet, int lag) {
            for (int i = 0; i < sheet.length; i++) {
                if (go(f, tick + i + lag, 0)[0] != sheet[i]) {
                    return false;
                }
            }
            return true;
        }
    }

    // ---- a run

    private static final class Run {
        private final int run;
        private final Random random;
        private final CatchBars x = new CatchBars();
        private State s = new State();
        private State kept;
        private final long[][] sheets = new long[4][];
        private final int[] bits = new int[4];
        private final int[] told = new int[6];
        private List<Integer> trace = new ArrayList<>();
        private int images;
        private int calls;
        /** In a third of the runs hardly any argument lies outside, so that more comes of the calls. */
        private final boolean calm;

        Run(int run) {
            this.run = run;
            this.random = new Random(run * 7919L + 5);
            this.calm = run % 3 == 0;
        }

        void all() {
            // A step may call nothing, so steps have a bound of their own.
            for (int i = 0; i < 9 * CALLS && calls < CALLS; i++) {
                one();
            }
            for (int k = 1; k <= 5; k++) {
                due("told(" + k + ") in the end", x.told(k), told[k]);
            }
        }

        private int pick(int low, int high) {
            int dice = random.nextInt(calm ? 200 : 40);
            if (dice == 0) {
                int[] odd = {low - 1, high + 1, Integer.MIN_VALUE, Integer.MAX_VALUE, -1, 0};
                return odd[random.nextInt(odd.length)];
            }
            if (dice <= 3) {
                return dice == 1 ? low : high;
            }
            return low + random.nextInt(high - low + 1);
        }

        private int flyerOr() {
            return pick(0, Math.max(0, s.flyers.size() - 1));
        }

        private void due(String call, long got, long want) {
            calls++;
            due.due("run " + run + ", call " + calls + ", " + call, got, want);
        }

        private long error(int error) {
            told[Due.LOW - error]++;
            return error;
        }

        private long orError(long answer) {
            return answer == Due.NONE ? error(Due.NONE) : answer;
        }

        private boolean isFlyer(int f) {
            return f >= 0 && f < s.flyers.size();
        }

        private static boolean in(int v, int low, int high) {
            return low <= v && v <= high;
        }

        private void one() {
            switch (random.nextInt(42)) {
                case 0: case 1: swing(); break;
                case 2: bar(); break;
                case 3: set(); break;
                case 4: flyer(); break;
                case 5: ofFlyer(); break;
                case 6: become(); break;
                case 7: as(); break;
                case 8: turn(); break;
                case 9: case 10: texts(); break;
                case 11: law(); break;
                case 12: case 13: go(); break;
                case 14: ticks(); break;
                case 15: evenings(); break;
                case 16: rest(); break;
                case 17: case 18: then(); break;
                case 19: can(); break;
                case 20: surest(); break;
                case 21: odds(); break;
                case 22: pumped(); break;
                case 23: inStep(); break;
                case 24: mend(); break;
                case 25: again(); break;
                case 26: net(); break;
                case 27: phases(); break;
                case 28: late(); break;
                case 29: seed(); break;
                case 30: voice(); break;
                case 31: trace(); break;
                case 32: sheet(); break;
                case 33: put(); break;
                case 34: move(); break;
                case 35: turns(); break;
                case 36: judge(); break;
                case 37: image(); break;
                case 38: restore(); break;
                case 39: tell(); break;
                case 40: check(); break;
                default: count(); break;
            }
        }

        private void swing() {
            int i = pick(0, 1);
            int what = pick(0, 2);
            int p = in(i, 0, 1) ? s.swings[i][0] : 12;
            int v = what == 0 ? pick(4, 40) : what == 1 ? pick(1, 60) : pick(0, p - 1);
            boolean fits = in(i, 0, 1) && in(what, 0, 2)
                && (what == 0 ? in(v, 4, 40) : what == 1 ? in(v, 1, 60) : in(v, 0, p - 1));
            long want;
            if (fits) {
                want = s.swings[i][what];
                s.swings[i][what] = v;
                s.swings[i][2] %= s.swings[i][0];
            } else {
                want = error(Due.BEYOND);
            }
            due("swing(" + i + ", " + what + ", " + v + ")", x.swing(i, what, v), want);
        }

        private void bar() {
            int i = pick(0, 1);
            int t = pick(0, 19999);
            long want = in(i, 0, 1) && in(t, 0, 19999) ? s.bar(i, t) : error(Due.BEYOND);
            due("bar(" + i + ", " + t + ")", x.bar(i, t), want);
        }

        private void set() {
            int what = pick(0, 2);
            int[] low = {0, 0, -99};
            int[] high = {200, 30, 299};
            int v = in(what, 0, 2) ? pick(low[what], high[what]) : 0;
            long want;
            if (in(what, 0, 2) && in(v, low[what], high[what])) {
                want = s.sets[what];
                s.sets[what] = v;
            } else {
                want = error(Due.BEYOND);
            }
            due("set(" + what + ", " + v + ")", x.set(what, v), want);
        }

        private void flyer() {
            int km = pick(0, 69);
            long want;
            if (!in(km, 0, 69)) {
                want = error(Due.BEYOND);
            } else if (s.flyers.size() == 6) {
                want = error(Due.FULL);
            } else {
                One f = new One();
                f.kind = km / 10;
                f.m = km % 10;
                want = s.flyers.size();
                s.flyers.add(f);
            }
            due("flyer(" + km + ")", x.flyer(km), want);
        }

        private void ofFlyer() {
            int f = flyerOr();
            int what = pick(0, 6);
            long want;
            if (isFlyer(f) && in(what, 0, 6)) {
                One o = s.flyers.get(f);
                Plain p = o.as(f);
                want = new int[] {o.kind, o.m, o.turns, o.goes, p.lag(), p.holds(s.sets[1]), p.harm(10)}[what];
            } else {
                want = error(Due.BEYOND);
            }
            due("ofFlyer(" + f + ", " + what + ")", x.ofFlyer(f, what), want);
        }

        private void become() {
            int f = flyerOr();
            int km = pick(0, 69);
            long want;
            if (isFlyer(f) && in(km, 0, 69)) {
                want = s.flyers.get(f).kind;
                s.flyers.get(f).kind = km / 10;
                s.flyers.get(f).m = km % 10;
            } else {
                want = error(Due.BEYOND);
            }
            due("become(" + f + ", " + km + ")", x.become(f, km), want);
        }

        private void as() {
            int f = flyerOr();
            int kind = pick(0, 6);
            long want;
            if (!isFlyer(f) || !in(kind, 0, 6)) {
                want = error(Due.BEYOND);
            } else {
                boolean is = CLASSES[kind].isInstance(s.flyers.get(f).as(f));
                want = is ? s.flyers.get(f).m : error(Due.KIND);
            }
            due("as(" + f + ", " + kind + ")", x.as(f, kind), want);
        }

        private void turn() {
            int f = flyerOr();
            int k = pick(1, 3);
            long want;
            if (isFlyer(f) && in(k, 1, 3)) {
                want = s.flyers.get(f).turns;
                s.flyers.get(f).turns = k;
            } else {
                want = error(Due.BEYOND);
            }
            due("turn(" + f + ", " + k + ")", x.turn(f, k), want);
        }

        /** A TEXT, mostly a good one, sometimes with a byte changed or cut short. */
        private void texts() {
            String text = someText(random.nextInt(7));
            text = text.substring(0, Math.min(text.length(), 50));
            if (random.nextInt(4) == 0 && !text.isEmpty()) {
                int at = random.nextInt(text.length());
                String all = "0123456789kvm!()|&<=>+-*/% x\0\377";
                text = text.substring(0, at) + all.charAt(random.nextInt(all.length())) + text.substring(at + 1);
            }
            for (int i = 0; i < text.length();) {
                int n = pick(1, 8);
                long word = random.nextLong();
                String part = "";
                for (int j = 0; in(n, 1, 8) && j < n; j++) {
                    char c = i + j < text.length() ? text.charAt(i + j) : '9';
                    word = word & ~(255L << 8 * j) | (long) c << 8 * j;
                    part += c;
                }
                feed(word, n, part);
                i += Math.max(1, part.length());
            }
            int use = pick(0, 1);
            long want;
            if (!in(use, 0, 1)) {
                want = error(Due.BEYOND);
            } else {
                int fault = faultOf(s.tape);
                want = fault < 0 ? 1 : -10 - fault;
                s.texts[use] = fault < 0 ? s.tape : s.texts[use];
                s.tape = "";
            }
            due("text(" + use + ")", x.text(use), want);
        }

        private void feed(long word, int n, String part) {
            long want;
            if (!in(n, 1, 8)) {
                want = error(Due.BEYOND);
            } else if (s.tape.length() + n > 50) {
                want = error(Due.FULL);
            } else {
                s.tape += part;
                want = s.tape.length();
            }
            due("feed(" + word + ", " + n + ")", x.feed(word, n), want);
        }

        private String someText(int deep) {
            int dice = random.nextInt(deep <= 0 ? 2 : 8);
            switch (dice) {
                case 0: return "" + random.nextInt(random.nextInt(3) == 0 ? 12000 : 50);
                case 1: return "" + "kvm".charAt(random.nextInt(3));
                case 2: return "!" + someText(deep - 3);
                case 3: return "(" + someText(deep - 1) + ")";
                default:
                    return someText(deep - 2) + "|&<=>+-*/%".charAt(random.nextInt(10)) + someText(deep - 2);
            }
        }

        private void law() {
            int use = pick(0, 1);
            int a = pick(-3, 50);
            int b = pick(-130, 130);
            int c = pick(-9, 9);
            long want = in(use, 0, 1) ? s.law(use, a, b, c) : error(Due.BEYOND);
            due("law(" + use + ", " + a + ", " + b + ", " + c + ")", x.law(use, a, b, c), want);
        }

        private void go() {
            int f = flyerOr();
            due("go(" + f + ")", x.go(f), isFlyer(f) ? s.reallyGo(f, s.tick) : error(Due.BEYOND));
        }

        private void ticks() {
            int n = pick(1, run % 5 == 0 ? 200 : 30);
            long want;
            if (!in(n, 1, 200)) {
                want = error(Due.BEYOND);
            } else if (s.tick + n > 9999) {
                want = error(Due.STATE);
            } else {
                s.tick += n;
                want = s.tick;
            }
            due("ticks(" + n + ")", x.ticks(n), want);
        }

        private void evenings() {
            int n = pick(1, run % 2 == 0 ? 40 : 4);
            long want;
            if (!in(n, 1, 40)) {
                want = error(Due.BEYOND);
            } else if (s.tick + 12 * n > 9999) {
                want = error(Due.STATE);
            } else {
                for (int i = 0; i < n * s.flyers.size(); i++) {
                    s.z = (int) (s.z * 1103515245L + 12345L);
                    s.reallyGo(i % s.flyers.size(), s.tick + i / s.flyers.size() * 12 + (s.z >>> 8) % 12);
                }
                s.tick += 12 * n;
                want = s.catches;
            }
            due("evenings(" + n + ")", x.evenings(n), want);
        }

        private void rest() {
            long want = 0;
            for (One f : s.flyers) {
                want += f.goes;
                f.goes = 0;
            }
            due("rest()", x.rest(), want);
        }

        private void then() {
            int f = flyerOr();
            int n = pick(0, 60);
            int what = pick(0, 4);
            boolean fits = isFlyer(f) && in(n, 0, 60) && in(what, 0, 4);
            long want = fits ? s.told(f, s.tick + n)[what] : error(Due.BEYOND);
            due("then(" + f + ", " + n + ", " + what + ")", x.then(f, n, what), want);
        }

        private void can() {
            int f = flyerOr();
            int n = pick(1, 60);
            int what = pick(0, 1);
            long want;
            if (!isFlyer(f) || !in(n, 1, 60) || !in(what, 0, 1)) {
                want = error(Due.BEYOND);
            } else if (what == 1) {
                want = orError(s.next(f, n));
            } else {
                want = 0;
                for (int i = 0; i < n; i++) {
                    want += s.told(f, s.tick + i)[1];
                }
            }
            due("can(" + f + ", " + n + ", " + what + ")", x.can(f, n, what), want);
        }

        private void surest() {
            int f = flyerOr();
            int n = pick(1, 60);
            long want = isFlyer(f) && in(n, 1, 60) ? s.surest(f, n) : error(Due.BEYOND);
            due("surest(" + f + ", " + n + ")", x.surest(f, n), want);
        }

        private long part(BigInteger above, BigInteger below, int part) {
            BigInteger by = above.gcd(below);
            return (part == 0 ? above : below).divide(by).longValueExact();
        }

        private void odds() {
            int f = flyerOr();
            int n = pick(0, 60);
            int part = pick(0, 1);
            long want = isFlyer(f) && in(n, 0, 60) && in(part, 0, 1)
                ? part(BigInteger.valueOf(s.cases(f, s.tick + n)), BigInteger.valueOf(9), part) : error(Due.BEYOND);
            due("odds(" + f + ", " + n + ", " + part + ")", x.odds(f, n, part), want);
        }

        private void pumped() {
            int f = flyerOr();
            int n = pick(1, 60);
            long want;
            if (!isFlyer(f) || !in(n, 1, 60)) {
                want = error(Due.BEYOND);
            } else {
                State t = s.copy();
                want = Due.NONE;
                for (int pumps = 59; pumps >= 0; pumps--) {
                    t.swings[0][1] = Math.min(60, s.swings[0][1] + pumps);
                    want = t.next(f, n) >= 0 ? pumps : want;
                }
                want = orError(want);
            }
            due("pumped(" + f + ", " + n + ")", x.pumped(f, n), want);
        }

        private void inStep() {
            int f = flyerOr();
            int n = pick(1, 60);
            long want;
            if (!isFlyer(f) || !in(n, 1, 60)) {
                want = error(Due.BEYOND);
            } else {
                State t = s.copy();
                want = Due.NONE;
                for (int steps = 39; steps >= 0; steps--) {
                    t.swings[1][2] = (s.swings[1][2] + steps) % s.swings[1][0];
                    want = t.next(f, n) >= 0 ? steps : want;
                }
                want = orError(want);
            }
            due("inStep(" + f + ", " + n + ")", x.inStep(f, n), want);
        }

        private void mend() {
            int f = flyerOr();
            int n = pick(0, 60);
            int a = pick(0, 9);
            int b = pick(0, 9);
            long want;
            if (isFlyer(f) && in(n, 0, 60) && in(a, 0, 9) && in(b, 0, 9)) {
                int off = s.told(f, s.tick + n)[0];
                want = off - off * a / 10;
                want -= off * b / 10;
            } else {
                want = error(Due.BEYOND);
            }
            due("mend(" + f + ", " + n + ", " + a + ", " + b + ")", x.mend(f, n, a, b), want);
        }

        private void again() {
            int f = flyerOr();
            int n = pick(1, 60);
            int g = pick(0, 99);
            int h = pick(0, 99);
            int part = pick(0, 1);
            long want;
            if (isFlyer(f) && in(n, 1, 60) && in(g, 0, 99) && in(h, 0, 99) && in(part, 0, 1)) {
                int caught = s.cases(f, s.tick + s.surest(f, n));
                // Both ways over all 81 pairs of cases: bow after a miss, or go once more.
                long bow = 0;
                long more = 0;
                for (int pair = 0; pair < 81; pair++) {
                    boolean first = pair / 9 < caught;
                    boolean second = pair % 9 < caught;
                    bow += first ? g : -h;
                    more += first ? g : second ? g - h : -h - h;
                }
                want = part(BigInteger.valueOf(Math.max(bow, more)), BigInteger.valueOf(81), part);
            } else {
                want = error(Due.BEYOND);
            }
            due("again(" + f + ", " + n + ", " + g + ", " + h + ", " + part + ")", x.again(f, n, g, h, part), want);
        }

        private void net() {
            int f = flyerOr();
            int n = pick(1, 60);
            int what = pick(0, 1);
            long want;
            if (!isFlyer(f) || !in(n, 1, 60) || !in(what, 0, 1)) {
                want = error(Due.BEYOND);
            } else {
                State t = s.copy();
                int falls = 0;
                long least = Long.MAX_VALUE;
                int place = 0;
                int[][] goes = new int[n][];
                for (int i = 0; i < n; i++) {
                    goes[i] = t.told(f, s.tick + i);
                    falls += 1 - goes[i][1];
                }
                Plain p = t.flyers.get(f).as(f);
                for (int net = 299; net >= -99; net--) {
                    long sum = 0;
                    for (int[] go : goes) {
                        sum += go[1] == 1 ? 0 : p.harm(Math.abs(net - go[3]));
                    }
                    if (sum <= least) {
                        least = sum;
                        place = net;
                    }
                }
                want = falls == 0 ? error(Due.NONE) : what == 0 ? place : least;
            }
            due("net(" + f + ", " + n + ", " + what + ")", x.net(f, n, what), want);
        }

        /** Sheets rarely tell what is so by chance: put in what would be, now and then. */
        private void tellOffs(int f, int sheet, int phase, int lag) {
            if (sheets[sheet] == null || random.nextInt(3) == 0) {
                return;
            }
            State t = s.copy();
            t.swings[1][2] = phase;
            for (int i = 0; i < sheets[sheet].length && i < 6; i++) {
                putOne(sheet, i, t.go(f, s.tick + i + lag, 0)[0]);
            }
        }

        private void phases() {
            int f = flyerOr();
            int sheet = pick(0, 3);
            int what = pick(0, 1);
            if (isFlyer(f) && in(sheet, 0, 3)) {
                tellOffs(f, sheet, random.nextInt(s.swings[1][0]), s.flyers.get(f).as(f).lag());
            }
            long want;
            if (!isFlyer(f) || !in(sheet, 0, 3) || !in(what, 0, 1)) {
                want = error(Due.BEYOND);
            } else if (sheets[sheet] == null) {
                want = error(Due.NONE);
            } else {
                List<Integer> fits = new ArrayList<>();
                State t = s.copy();
                for (int phase = 0; phase < s.swings[1][0]; phase++) {
                    t.swings[1][2] = phase;
                    if (t.asTold(f, sheets[sheet], s.flyers.get(f).as(f).lag())) {
                        fits.add(phase);
                    }
                }
                want = fits.isEmpty() ? error(Due.NONE) : what == 0 ? fits.get(0) : fits.size();
            }
            due("phases(" + f + ", " + sheet + ", " + what + ")", x.phases(f, sheet, what), want);
        }

        private void late() {
            int f = flyerOr();
            int sheet = pick(0, 3);
            if (isFlyer(f) && in(sheet, 0, 3)) {
                tellOffs(f, sheet, s.swings[1][2], random.nextInt(11));
            }
            long want;
            if (!isFlyer(f) || !in(sheet, 0, 3)) {
                want = error(Due.BEYOND);
            } else if (sheets[sheet] == null) {
                want = error(Due.NONE);
            } else {
                want = Due.NONE;
                for (int lag = 9; lag >= 0; lag--) {
                    want = s.asTold(f, sheets[sheet], lag) ? lag : want;
                }
                want = orError(want);
            }
            due("late(" + f + ", " + sheet + ")", x.late(f, sheet), want);
        }

        private void seed() {
            int v = random.nextInt();
            due("seed(" + v + ")", x.seed(v), s.z);
            s.z = v;
        }

        private void voice() {
            int f = flyerOr();
            int act = pick(0, 3);
            int v = random.nextBoolean() ? random.nextInt() : random.nextInt(20) - 10;
            long want;
            if (isFlyer(f) && in(act, 0, 3)) {
                Plain p = s.flyers.get(f).as(f);
                want = act == 0 ? p.swings(v) : act == 1 ? p.flies(v) : act == 2 ? p.falls(v) : p.tells(v);
                trace = p.seen;
            } else {
                want = error(Due.BEYOND);
            }
            due("voice(" + f + ", " + act + ", " + v + ")", x.voice(f, act, v), want);
        }

        private void trace() {
            int i = pick(0, 9);
            due("trace(" + i + ")", x.trace(i), in(i, 0, trace.size() - 1) ? trace.get(i) : error(Due.NONE));
        }

        private void sheet() {
            int sheet = pick(0, 3);
            int b = new int[] {8, 16, 32, 8, 16, 32, 8, 0, 7}[random.nextInt(9)];
            int n = random.nextBoolean() ? pick(0, 6) : pick(0, 40);
            long want = 1;
            if (!in(sheet, 0, 3) || b == 7) {
                want = error(Due.BEYOND);
            } else if (b == 0) {
                sheets[sheet] = null;
                bits[sheet] = 0;
            } else if (n < 0) {
                want = error(Due.STATE);
            } else if (n > 40) {
                want = error(Due.BEYOND);
            } else {
                sheets[sheet] = new long[n];
                bits[sheet] = b;
            }
            due("sheet(" + sheet + ", " + b + ", " + n + ")", x.sheet(sheet, b, n), want);
        }

        private void put() {
            int sheet = pick(0, 3);
            int length = in(sheet, 0, 3) && sheets[sheet] != null ? sheets[sheet].length : 1;
            int v = random.nextInt(4) == 0 ? random.nextInt() : random.nextInt(5) - 1;
            putOne(sheet, pick(0, Math.max(0, length - 1)), v);
        }

        private void putOne(int sheet, int i, int v) {
            long want = 1;
            if (!in(sheet, 0, 3)) {
                want = error(Due.BEYOND);
            } else if (sheets[sheet] == null) {
                want = error(Due.NONE);
            } else if (!in(i, 0, sheets[sheet].length - 1)) {
                want = error(Due.BEYOND);
            } else {
                long range = 1L << bits[sheet];
                long low = Math.floorMod((long) v, range);
                sheets[sheet][i] = low >= range / 2 ? low - range : low;
            }
            due("put(" + sheet + ", " + i + ", " + v + ")", x.put(sheet, i, v), want);
        }

        private void move() {
            int a = pick(0, 3);
            int b = random.nextInt(3) == 0 ? a : pick(0, 3);
            int i = pick(0, 4);
            int j = pick(0, 4);
            int n = pick(0, 5);
            long want;
            if (!in(a, 0, 3) || !in(b, 0, 3)) {
                want = error(Due.BEYOND);
            } else if (sheets[a] == null || sheets[b] == null) {
                want = error(Due.NONE);
            } else if (bits[a] != bits[b]) {
                want = error(Due.KIND);
            } else if (n < 0 || i < 0 || j < 0 || (long) i + n > sheets[a].length || (long) j + n > sheets[b].length) {
                want = error(Due.BEYOND);
            } else {
                long[] were = sheets[a].clone();
                for (int k = 0; k < n; k++) {
                    sheets[b][j + k] = were[i + k];
                }
                want = n;
            }
            due("move(" + a + ", " + i + ", " + b + ", " + j + ", " + n + ")", x.move(a, i, b, j, n), want);
        }

        private void turns() {
            int sheet = pick(0, 3);
            long want = 0;
            if (!in(sheet, 0, 3)) {
                want = error(Due.BEYOND);
            } else if (sheets[sheet] == null) {
                want = error(Due.NONE);
            } else {
                for (long v : sheets[sheet]) {
                    if (want == s.flyers.size() || v < 1 || v > 3) {
                        break;
                    }
                    s.flyers.get((int) want++).turns = (int) v;
                }
            }
            due("turns(" + sheet + ")", x.turns(sheet), want);
        }

        private void judge() {
            int sheet = pick(0, 3);
            if (in(sheet, 0, 3) && sheets[sheet] != null && random.nextInt(3) > 0) {
                for (int i = 0; i < sheets[sheet].length && i < s.flyers.size(); i++) {
                    putOne(sheet, i, s.flyers.get(i).goes);
                }
            }
            long want = -1;
            if (!in(sheet, 0, 3)) {
                want = error(Due.BEYOND);
            } else if (sheets[sheet] == null) {
                want = error(Due.NONE);
            } else {
                int numbers = sheets[sheet].length;
                int flyers = s.flyers.size();
                for (int i = Math.max(numbers, flyers) - 1; i >= 0; i--) {
                    want = i < numbers && i < flyers && sheets[sheet][i] == s.flyers.get(i).goes ? want : i;
                }
            }
            due("judge(" + sheet + ")", x.judge(sheet), want);
        }

        private void image() {
            kept = s.copy();
            due("image()", x.image(), ++images);
        }

        private void restore() {
            if (random.nextInt(3) > 0 && images > 0) {
                return;
            }
            long want;
            if (kept == null) {
                want = error(Due.NONE);
            } else {
                s = kept.copy();
                want = s.tick;
            }
            due("restore()", x.restore(), want);
        }

        private void tell() {
            for (int i = random.nextInt(8); i >= 0; i--) {
                int v = random.nextInt(12) == 0 ? random.nextInt() : s.bar(0, s.tick + s.waiting.size());
                long want;
                if (s.waiting.size() == 20) {
                    want = error(Due.FULL);
                } else {
                    s.waiting.add(v);
                    want = s.waiting.size();
                }
                due("tell(" + v + ")", x.tell(v), want);
            }
        }

        private void check() {
            long want = 0;
            for (int i = s.waiting.size() - 1; i >= 0; i--) {
                want = s.waiting.get(i) == s.bar(0, s.tick + i) ? want : 1 + i;
            }
            s.waiting.clear();
            due("check()", x.check(), want);
        }

        private void count() {
            int what = pick(0, 11);
            int[] all = {s.flyers.size(), s.tick, s.catches, s.falls, s.hurt, s.sets[0], s.sets[1], s.sets[2],
                s.tape.length(), s.waiting.size(), trace.size(), s.z};
            due("count(" + what + ")", x.count(what), in(what, 0, 11) ? all[what] : error(Due.BEYOND));
            int k = pick(1, 5);
            due("told(" + k + ")", x.told(k), in(k, 1, 5) ? told[k] : error(Due.BEYOND));
        }
    }
}
