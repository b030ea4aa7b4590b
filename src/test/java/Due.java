/** Counts what was asked and what was not as due; every test of the project uses it. */
final class Due {
    static final int LOW = -1000000000;
    static final int BEYOND = LOW - 1;
    static final int NONE = LOW - 2;
    static final int STATE = LOW - 3;
    static final int FULL = LOW - 4;
    static final int KIND = LOW - 5;

    private final String name;
    private int asked;
    private int wrong;

    Due(String name) {
        this.name = name;
    }

    void due(String call, long got, long want) {
        asked++;
        if (got != want) {
            wrong++;
            System.out.println(name + ": " + call + " answered " + got + ", due is " + want);
        }
    }

    /** The same answer for each of some arguments that do not fit. */
    interface Call {
        long of(int argument);
    }

    void dueForAll(String call, long want, Call c, int... arguments) {
        for (int argument : arguments) {
            due(call + " with " + argument, c.of(argument), want);
        }
    }

    void end() {
        System.out.println(name + ": " + asked + " asked, " + wrong + " not as due");
        if (wrong != 0) {
            System.exit(1);
        }
    }

    static void feed(CatchBars x, String text) {
        for (int i = 0; i < text.length(); i += 8) {
            int n = Math.min(8, text.length() - i);
            long word = 0;
            for (int j = n - 1; j >= 0; j--) {
                word = word << 8 | text.charAt(i + j);
            }
            x.feed(word, n);
        }
    }

    /** What text(use) answers to a TEXT that is fed ahead. */
    static int text(CatchBars x, int use, String text) {
        feed(x, text);
        return x.text(use);
    }

    /**
     * A world that can be worked out by hand: both SWINGS go 20, 0, -20, 0 and so on, one flies
     * 4 TICKS (which is a PERIOD) and no way in AIR, there is no GAP: OFF is 40, 0, -40, 0 and so on.
     */
    static CatchBars plain() {
        CatchBars x = new CatchBars();
        x.swing(0, 0, 4);
        x.swing(1, 0, 4);
        x.set(0, 0);
        text(x, 0, "4");
        text(x, 1, "0");
        return x;
    }

    /** As plain(), with a FLYER 0. */
    static CatchBars plain(int km) {
        CatchBars x = plain();
        x.flyer(km);
        return x;
    }

    static void fill(CatchBars x, int sheet, int bits, int... numbers) {
        x.sheet(sheet, bits, numbers.length);
        for (int i = 0; i < numbers.length; i++) {
            x.put(sheet, i, numbers[i]);
        }
    }
}
