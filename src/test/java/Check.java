/** What the project's tests share: answers that are due, and texts written to sheets. */
final class Check {
    static final int MIN = Integer.MIN_VALUE, MAX = Integer.MAX_VALUE;
    /** Bytes 0, shorts 1, ints 2: a text fits every lane. */
    static final int BYTES = 0, SHORTS = 1, INTS = 2;

    private final String test;
    private int calls = 0;
    private int wrong = 0;

    Check(String test) {
        this.test = test;
    }

    void due(String call, long got, long want) {
        calls++;
        if (got != want) {
            wrong++;
            System.out.println(test + ": " + call + " answered " + got + ", due is " + want);
        }
    }

    void holds(String what, boolean so) {
        due(what, so ? 1 : 0, 1);
    }

    void end() {
        System.out.println(test + ": " + calls + " answers, " + wrong + " not as due");
        if (wrong != 0 || calls == 0) {
            System.exit(1);
        }
    }

    static void write(YearDeck x, int sheet, int lane, String text) {
        x.sheet(sheet, lane, text.length());
        for (int i = 0; i < text.length(); i++) {
            x.put(sheet, i, text.charAt(i));
        }
    }

    static void row(YearDeck x, int sheet, int lane, int... cells) {
        x.sheet(sheet, lane, cells.length);
        for (int i = 0; i < cells.length; i++) {
            x.put(sheet, i, cells[i]);
        }
    }

    /** Sheet 3 is left with the text, the others with nothing. */
    static YearDeck riding(String text) {
        YearDeck x = new YearDeck();
        write(x, 3, BYTES, text);
        x.ride(3, BYTES, 0, text.length());
        return x;
    }

    static int rideOf(YearDeck x, String text) {
        write(x, 3, BYTES, text);
        return x.ride(3, BYTES, 0, text.length());
    }
}
