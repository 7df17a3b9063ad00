import java.util.function.Supplier;
import java.util.function.ToLongFunction;

/** What the tests of boundaries share: each names a promise and quotes the words that it holds the class to. */
final class Bounds {
    static final int UNKNOWN = -1, OUTSIDE = -2, STATE = -3, FULL = -4, NONE = -9;
    static final long LOST = Long.MIN_VALUE;
    static final int NULL = 1, CAST = 2, INDEX = 3, SIZE = 4;

    private final Check check = new Check("BoundsTest");
    private final Doc doc;
    private final String only;
    private String now = "";
    private int answers = 0;
    private int tests = 0;

    Bounds(Doc doc, String only) {
        this.doc = doc;
        this.only = only;
    }

    /** A test of its own for these words of the document. */
    void of(int promise, String words, Runnable test) {
        String name = "promise " + promise + ", '" + words + "'";
        check.holds(name + " stands in the document", doc.quote(promise, words));
        if (!name.contains(only)) {
            return;
        }
        now = name + ": ";
        tests++;
        int before = answers;
        test.run();
        check.holds(name + " is tested", answers > before);
    }

    void due(String call, long got, long want) {
        answers++;
        check.due(now + call, got, want);
    }

    void same(String what, String got, String want) {
        answers++;
        check.holds(now + what + " is '" + got + "', due is '" + want + "'", got.equals(want));
    }

    void end() {
        if (only.isEmpty()) {
            check.holds("the document has its terms and 31 promises", doc.hasAll());
            check.holds("no clause is without a test: " + doc.unquoted(), doc.unquoted().isEmpty());
        }
        System.out.println("BoundsTest: " + tests + " tests of the document's words");
        check.end();
    }

    // ---- refused calls

    /** A call that names no faults: it answers so, and changes nothing, fault() neither. */
    void refused(String call, ToLongFunction<YearDeck> made, long due) {
        refused(call, Bounds::onARide, made, due);
    }

    void refused(String call, Supplier<YearDeck> object, ToLongFunction<YearDeck> made, long due) {
        changesNothing(call, object, made, due, SIZE, SIZE);
    }

    /** A call that names faults: it answers so, and changes nothing but fault(), which is 0. */
    void refusedClears(String call, ToLongFunction<YearDeck> made, long due) {
        refusedClears(call, Bounds::onARide, made, due);
    }

    void refusedClears(String call, Supplier<YearDeck> object, ToLongFunction<YearDeck> made, long due) {
        changesNothing(call, object, made, due, SIZE, 0);
    }

    /** A call that comes to a fault: it answers -10 less it, fault() tells it, and nothing else is changed. */
    void faulted(String call, ToLongFunction<YearDeck> made, int number) {
        faulted(call, Bounds::onARide, made, number);
    }

    void faulted(String call, Supplier<YearDeck> object, ToLongFunction<YearDeck> made, int number) {
        changesNothing(call, object, made, -10 - number, number == SIZE ? 0 : SIZE, number);
    }

    /** The same, where a long is answered. */
    void lost(String call, ToLongFunction<YearDeck> made, int number) {
        changesNothing(call, Bounds::onARide, made, LOST, number == SIZE ? 0 : SIZE, number);
    }

    private void changesNothing(String call, Supplier<YearDeck> object, ToLongFunction<YearDeck> made, long due,
            int faultAhead, int faultBehind) {
        YearDeck x = object.get();
        x.sheet(faultAhead == SIZE ? 0 : -1, 0, -1);
        due("fault() ahead of " + call, x.fault(), faultAhead);
        due(call, made.applyAsLong(x), due);
        due("fault() behind " + call, x.fault(), faultBehind);
        same("what is seen behind " + call, Seen.of(x), Seen.of(object.get()));
    }

    // ---- objects

    /** 3 riders, 4 sections, 1 seat. */
    static final String RIDE = "u1,2130;r042023;l021821;e131920";

    /**
     * An object with something everywhere: RIDE on sheet 3 (bytes), 2 readings, a trace, a row of shorts on sheet 0
     * and of ints on sheet 1, nothing on sheet 2.
     */
    static YearDeck onARide() {
        YearDeck x = Check.riding(RIDE);
        Check.row(x, 0, Check.SHORTS, 4, 1, 2, 8, -300);
        Check.row(x, 1, Check.INTS, 0, 0, 6, 0, 70000);
        x.reading(0, 5, 25);
        x.reading(1, 1, 21);
        x.tell(1);
        return x;
    }

    /** No ride; sheet 0 has a row of bytes, sheet 1 one of shorts, sheet 2 one of ints, sheet 3 nothing. */
    static YearDeck noRide() {
        YearDeck x = new YearDeck();
        Check.row(x, 0, Check.BYTES, 1, 2, 3);
        Check.row(x, 1, Check.SHORTS, 4, 5, 6);
        Check.row(x, 2, Check.INTS, 7, 8, 9);
        return x;
    }

    /** Numbers that are not 0 .. top; some differ from these only in bits that a cut would lose. */
    static int[] beyond(int top) {
        return new int[] {-1, -2, -32, -256, Check.MIN, Check.MIN + 1, top + 1, top + 2, top + 32, top + 64, top + 256,
            256, 65536, 65536 + top, Check.MAX - 1, Check.MAX};
    }
}
