import java.util.function.Supplier;
import java.util.function.ToLongFunction;

/** Boundaries that the terms tell for many calls at once: each is looked at for every promise that it binds. */
final class TermBounds {
    private static final String ORDER = "of several the first in the order in which a call's line tells them";
    private static final String NOTHING = "They change nothing (but fault(), of a call that names FAULTS)";
    private static final String FIRST = "Of a call the first that is come to, in the order told";
    private static final String EMPTY
        = "3 INDEX (of cells from i on also where i is not 0 .. how many there are, if none of them is taken, too)";
    private static final int MIN = Check.MIN, MAX = Check.MAX;
    private static Bounds b;

    static void all(Bounds bounds) {
        b = bounds;
        b.of(31, "NONE is -9", TermBounds::constants);
        refusals();
        refusalsChangeNothing();
        order();
        faults();
        firstFault();
        indexOfNoCells();
        answersOfFaults();
    }

    private static void constants() {
        b.due("UNKNOWN", YearDeck.UNKNOWN, -1);
        b.due("OUTSIDE", YearDeck.OUTSIDE, -2);
        b.due("STATE", YearDeck.STATE, -3);
        b.due("FULL", YearDeck.FULL, -4);
        b.due("NONE", YearDeck.NONE, -9);
        b.due("LOST", YearDeck.LOST, Long.MIN_VALUE);
    }

    // ---- refusals

    private static void refusals() {
        b.of(3, "UNKNOWN (there is no such RIDER", () -> {
            b.due("the last rider", Bounds.onARide().ofRider(2, 0), 2);
            b.refused("one behind", x -> x.ofRider(3, 0), Bounds.UNKNOWN);
            b.refused("one ahead of the first", x -> x.ofRider(-1, 0), Bounds.UNKNOWN);
        });
        b.of(4, "RIDER, SECTION", () -> {
            b.due("the last section", Bounds.onARide().slope(3), 0);
            b.refused("one behind", x -> x.slope(4), Bounds.UNKNOWN);
            b.refused("one ahead of the first", x -> x.slope(-1), Bounds.UNKNOWN);
        });
        b.of(22, "SECTION, SHEET", () -> {
            b.due("the last sheet", Bounds.onARide().lose(3), 1);
            b.refused("one behind", x -> x.lose(4), Bounds.UNKNOWN);
            b.refused("one ahead of the first", x -> x.lose(-1), Bounds.UNKNOWN);
        });
        b.of(5, "OUTSIDE (another number is not as told)", () -> {
            b.refused("one above", x -> x.tilt(0, 4), Bounds.OUTSIDE);
            b.refused("one below", x -> x.tilt(0, -1), Bounds.OUTSIDE);
        });
        b.of(14, "STATE (as told)", () -> b.refused("most", Bounds::noRide, YearDeck::most, Bounds.STATE));
        b.of(15, "FULL", () -> {
            YearDeck x = Bounds.onARide();
            for (int k = 2; k < 8; k++) {
                b.due("reading " + k, x.reading(0, 0, 20), k);
            }
            b.due("one more", x.reading(0, 0, 20), Bounds.FULL);
        });
    }

    private static void refusalsChangeNothing() {
        clears(2, x -> x.ride(4, 0, 0, 31), Bounds.UNKNOWN);
        clears(2, x -> x.ride(3, 3, 0, 31), Bounds.OUTSIDE);
        clears(2, x -> x.ride(3, 0, 0, 30), -130);
        leaves(3, x -> x.ofRider(3, 0), Bounds.UNKNOWN);
        leaves(3, x -> x.ofRider(0, 6), Bounds.OUTSIDE);
        leaves(4, x -> x.slope(4), Bounds.UNKNOWN);
        leaves(5, x -> x.tilt(4, 1), Bounds.UNKNOWN);
        leaves(5, x -> x.tilt(0, 4), Bounds.OUTSIDE);
        leaves(6, x -> x.seat(4), Bounds.OUTSIDE);
        leaves(7, x -> x.wish(3, 1), Bounds.UNKNOWN);
        leaves(7, x -> x.wish(0, 100), Bounds.OUTSIDE);
        leaves(8, x -> x.gain(3, 0), Bounds.UNKNOWN);
        leaves(8, x -> x.gain(0, 4), Bounds.UNKNOWN);
        leaves(9, x -> x.age(3, 0), Bounds.UNKNOWN);
        leaves(9, x -> x.age(0, 16), Bounds.OUTSIDE);
        clears(10, x -> x.sit(4, 1, 0, 3, 0), Bounds.UNKNOWN);
        clears(10, x -> x.sit(0, 3, 0, 3, 0), Bounds.OUTSIDE);
        clears(10, x -> x.sit(0, 1, 0, 3, 4), Bounds.OUTSIDE);
        clears(10, x -> x.sit(0, 1, 0, 2, 0), Bounds.OUTSIDE);
        clears(10, x -> x.sit(0, 1, 2, 3, 0), Bounds.OUTSIDE);
        leaves(11, x -> x.way(3, 0), Bounds.UNKNOWN);
        leaves(11, x -> x.way(0, 200), Bounds.OUTSIDE);
        leaves(12, x -> x.spread(3), Bounds.UNKNOWN);
        leaves(13, x -> x.agree(0, 3, 0), Bounds.UNKNOWN);
        leaves(13, x -> x.agree(0, 1, 3), Bounds.OUTSIDE);
        leaves(15, x -> x.reading(3, 0, 0), Bounds.UNKNOWN);
        leaves(15, x -> x.reading(0, 16, 0), Bounds.OUTSIDE);
        leaves(15, x -> x.reading(0, 0, 200), Bounds.OUTSIDE);
        leaves(16, x -> x.back(3), Bounds.OUTSIDE);
        leaves(17, x -> x.slopes(4), Bounds.UNKNOWN);
        leaves(18, x -> x.kinds(3), Bounds.UNKNOWN);
        leaves(19, x -> x.began(3, 0), Bounds.UNKNOWN);
        leaves(19, x -> x.began(0, 2), Bounds.OUTSIDE);
        leaves(20, x -> x.odds(3, 0, 0), Bounds.LOST);
        leaves(20, x -> x.odds(0, 200, 0), Bounds.LOST);
        leaves(20, x -> x.odds(0, 0, 2), Bounds.LOST);
        clears(21, x -> x.sheet(4, 0, 1), Bounds.UNKNOWN);
        clears(21, x -> x.sheet(0, 3, 1), Bounds.OUTSIDE);
        clears(21, x -> x.sheet(0, 0, 61), Bounds.OUTSIDE);
        leaves(22, x -> x.lose(4), Bounds.UNKNOWN);
        clears(23, x -> x.put(4, 0, 1), Bounds.UNKNOWN);
        clears(24, x -> x.cell(4, 0, 0), Bounds.LOST);
        clears(24, x -> x.cell(0, 0, 3), Bounds.LOST);
        clears(25, x -> x.copy(4, 0, 0, 0, 1), Bounds.UNKNOWN);
        clears(25, x -> x.copy(0, 0, 4, 0, 1), Bounds.UNKNOWN);
        leaves(26, x -> x.tell(3), Bounds.UNKNOWN);
        leaves(27, x -> x.ring(3), Bounds.UNKNOWN);
        clears(28, x -> x.as(3, 0), Bounds.UNKNOWN);
        clears(28, x -> x.as(0, 3), Bounds.OUTSIDE);
        leaves(31, x -> x.many(4), Bounds.OUTSIDE);
    }

    private static void leaves(int promise, ToLongFunction<YearDeck> call, long due) {
        b.of(promise, NOTHING, () -> b.refused("a refused call", call, due));
    }

    private static void clears(int promise, ToLongFunction<YearDeck> call, long due) {
        b.of(promise, NOTHING, () -> b.refusedClears("a refused call", call, due));
    }

    private static void order() {
        inOrder(2, "no sheet, no lane, no size", x -> x.ride(4, 3, -1, -1), Bounds.UNKNOWN);
        inOrder(2, "no lane, no size", x -> x.ride(3, 3, -1, -1), Bounds.OUTSIDE);
        inOrder(2, "no lane, nothing", x -> x.ride(2, -1, 0, 0), Bounds.OUTSIDE);
        inOrder(3, "no rider, no what", x -> x.ofRider(3, 6), Bounds.UNKNOWN);
        inOrder(5, "no section, no slope", x -> x.tilt(4, 4), Bounds.UNKNOWN);
        b.of(6, ORDER, () -> {
            b.refused("no seats, no ride", Bounds::noRide, x -> x.seat(4), Bounds.OUTSIDE);
            b.refused("less than no seats, no ride", Bounds::noRide, x -> x.seat(-1), Bounds.OUTSIDE);
        });
        inOrder(7, "no rider, no want", x -> x.wish(3, 100), Bounds.UNKNOWN);
        inOrder(9, "no rider, no set", x -> x.age(3, -1), Bounds.UNKNOWN);
        inOrder(10, "no sheet, no lane, no what", x -> x.sit(4, 3, -1, -1, 4), Bounds.UNKNOWN);
        inOrder(10, "no lane, nothing", x -> x.sit(2, 3, -1, -1, 0), Bounds.OUTSIDE);
        inOrder(10, "no what, nothing", x -> x.sit(2, 0, -1, -1, 4), Bounds.OUTSIDE);
        inOrder(10, "no what, another lane, no size", x -> x.sit(0, 0, -1, -1, 4), Bounds.OUTSIDE);
        b.of(10, ORDER, () -> {
            b.refusedClears("no sheet, no ride", Bounds::noRide, x -> x.sit(4, 0, 0, 0, 0), Bounds.UNKNOWN);
            b.refusedClears("no lane, no ride", Bounds::noRide, x -> x.sit(0, 3, 0, 0, 0), Bounds.OUTSIDE);
            b.refusedClears("no what, no ride", Bounds::noRide, x -> x.sit(0, 0, 0, 0, 4), Bounds.OUTSIDE);
            b.refusedClears("no ride, nothing", Bounds::noRide, x -> x.sit(3, 0, 0, 0, 0), Bounds.STATE);
            b.refusedClears("no ride, another lane", Bounds::noRide, x -> x.sit(1, 0, 0, 0, 0), Bounds.STATE);
            b.refusedClears("no ride, no size", Bounds::noRide, x -> x.sit(0, 0, 0, -1, 0), Bounds.STATE);
        });
        inOrder(11, "no rider, no years", x -> x.way(3, 200), Bounds.UNKNOWN);
        inOrder(13, "no first, no what", x -> x.agree(3, 0, 3), Bounds.UNKNOWN);
        inOrder(13, "no other, no what", x -> x.agree(0, 3, 3), Bounds.UNKNOWN);
        inOrder(13, "one with oneself, no what", x -> x.agree(1, 1, 3), Bounds.UNKNOWN);
        inOrder(15, "no rider, no set, no years", x -> x.reading(3, -1, 200), Bounds.UNKNOWN);
        b.of(15, ORDER, () -> {
            Supplier<YearDeck> full = TermBounds::eightReadings;
            b.refused("no rider, full", full, x -> x.reading(3, 0, 20), Bounds.UNKNOWN);
            b.refused("no set, full", full, x -> x.reading(0, 16, 20), Bounds.OUTSIDE);
            b.refused("no years, full", full, x -> x.reading(0, 0, 200), Bounds.OUTSIDE);
            b.refused("less than no years, full", full, x -> x.reading(0, 0, -1), Bounds.OUTSIDE);
            b.refused("full alone", full, x -> x.reading(0, 0, 20), Bounds.FULL);
        });
        inOrder(19, "no rider, no what", x -> x.began(3, 2), Bounds.UNKNOWN);
        inOrder(21, "no sheet, no lane, no size", x -> x.sheet(4, 3, -1), Bounds.UNKNOWN);
        inOrder(21, "no sheet, too long", x -> x.sheet(-1, 0, 61), Bounds.UNKNOWN);
        inOrder(21, "no lane, no size", x -> x.sheet(0, 3, -1), Bounds.OUTSIDE);
        inOrder(23, "no sheet, no cell", x -> x.put(4, -1, 0), Bounds.UNKNOWN);
        inOrder(24, "no sheet, no cell, no lane", x -> x.cell(4, -1, 3), Bounds.LOST);
        inOrder(24, "no cell, no lane", x -> x.cell(0, -1, 3), Bounds.LOST);
        inOrder(24, "nothing, no lane", x -> x.cell(2, 0, 3), Bounds.LOST);
        inOrder(25, "no sheet, nothing, no cells", x -> x.copy(4, -1, 2, -1, -1), Bounds.UNKNOWN);
        inOrder(25, "nothing, no sheet, no cells", x -> x.copy(2, -1, 4, -1, -1), Bounds.UNKNOWN);
        inOrder(28, "no rider, no kind", x -> x.as(3, 3), Bounds.UNKNOWN);
        inOrder(28, "no kind, nor that one", x -> x.as(0, 3), Bounds.OUTSIDE);
    }

    /** On a ride; the calls that name faults are left with none, the others leave the one that there was. */
    private static void inOrder(int promise, String call, ToLongFunction<YearDeck> made, long due) {
        boolean names = promise == 2 || promise == 10 || promise == 28 || promise >= 21 && promise <= 25;
        b.of(promise, ORDER, () -> {
            if (names) {
                b.refusedClears(call, made, due);
            } else {
                b.refused(call, made, due);
            }
        });
    }

    private static YearDeck eightReadings() {
        YearDeck x = Bounds.onARide();
        for (int k = 2; k < 8; k++) {
            x.reading(0, 0, 20);
        }
        return x;
    }

    // ---- faults

    private static void faults() {
        String none = "1 NULL (there is nothing)";
        b.of(2, none, () -> b.faulted("ride", x -> x.ride(2, 0, 0, 1), Bounds.NULL));
        b.of(10, none, () -> b.faulted("sit", x -> x.sit(2, 0, 0, 3, 0), Bounds.NULL));
        b.of(23, none, () -> b.faulted("put", x -> x.put(2, 0, 1), Bounds.NULL));
        b.of(24, none, () -> b.lost("cell", x -> x.cell(2, 0, 0), Bounds.NULL));
        b.of(25, none, () -> b.faulted("copy", x -> x.copy(2, 0, 2, 0, 1), Bounds.NULL));
        String another = "2 CAST (it is of another LANE, kind)";
        b.of(2, another, () -> b.faulted("ride", x -> x.ride(3, 1, 0, 31), Bounds.CAST));
        b.of(10, another, () -> b.faulted("sit", x -> x.sit(0, 2, 0, 3, 0), Bounds.CAST));
        b.of(24, another, () -> b.lost("cell", x -> x.cell(0, 0, 0), Bounds.CAST));
        b.of(25, another, () -> b.faulted("copy", x -> x.copy(0, 0, 1, 0, 1), Bounds.CAST));
        b.of(28, another, () -> b.faulted("as", x -> x.as(1, 2), Bounds.CAST));
        String length = "4 SIZE (a length below 0)";
        b.of(2, length, () -> b.faulted("ride", x -> x.ride(3, 0, 0, -1), Bounds.SIZE));
        b.of(10, length, () -> b.faulted("sit", x -> x.sit(0, 1, 0, -1, 0), Bounds.SIZE));
        b.of(21, length, () -> b.faulted("sheet", x -> x.sheet(0, 0, -1), Bounds.SIZE));
    }

    private static void firstFault() {
        b.of(2, FIRST, () -> {
            b.faulted("another lane, no size, no cells", x -> x.ride(3, 1, -1, -1), Bounds.CAST);
            b.faulted("another lane, no cells", x -> x.ride(3, 2, 40, 1), Bounds.CAST);
            b.faulted("nothing, no size, no cells", x -> x.ride(2, 1, -1, -1), Bounds.NULL);
            b.faulted("no size, no cells", x -> x.ride(3, 0, -1, -1), Bounds.SIZE);
            b.faulted("no size, beyond", x -> x.ride(3, 0, MAX, MIN), Bounds.SIZE);
            b.faulted("no cells, ahead of a text that is wrong", x -> x.ride(3, 0, 1, 31), Bounds.INDEX);
        });
        b.of(10, FIRST, () -> {
            b.faulted("another lane, no size, no cells", x -> x.sit(0, 0, -1, -1, 0), Bounds.CAST);
            b.faulted("nothing, no size, no cells", x -> x.sit(2, 0, -1, -1, 0), Bounds.NULL);
            b.faulted("no size, no cells", x -> x.sit(0, 1, -1, -1, 0), Bounds.SIZE);
            b.faulted("no cells, nor as many as riders", x -> x.sit(0, 1, 0, 6, 0), Bounds.INDEX);
            b.faulted("no cells, none of them taken", x -> x.sit(0, 1, 6, 0, 0), Bounds.INDEX);
            b.faulted("no cells, one of them no set", x -> x.sit(0, 1, 3, 3, 0), Bounds.INDEX);
        });
        b.of(23, FIRST, () -> {
            b.faulted("nothing, no cell", x -> x.put(2, -1, 0), Bounds.NULL);
            b.faulted("nothing, beyond", x -> x.put(2, MAX, 0), Bounds.NULL);
        });
        b.of(24, FIRST, () -> {
            b.lost("another lane, no cell", x -> x.cell(0, -1, 0), Bounds.CAST);
            b.lost("another lane, beyond", x -> x.cell(0, 5, 2), Bounds.CAST);
            b.lost("nothing, no cell", x -> x.cell(2, -1, 0), Bounds.NULL);
        });
        b.of(25, FIRST, () -> {
            b.faulted("nothing, no cells", x -> x.copy(2, -1, 0, -1, -1), Bounds.NULL);
            b.faulted("the other nothing, no cells", x -> x.copy(0, -1, 2, -1, -1), Bounds.NULL);
            b.faulted("unlike lanes, no cells", x -> x.copy(0, -1, 1, -1, -1), Bounds.CAST);
            b.faulted("unlike lanes, beyond", x -> x.copy(1, 0, 0, 0, 61), Bounds.CAST);
        });
    }

    private static void indexOfNoCells() {
        b.of(2, EMPTY, () -> {
            for (int i : new int[] {-1, 32, 60, MIN, MAX}) {
                b.faulted("ride of none from " + i + " on", x -> x.ride(3, 0, i, 0), Bounds.INDEX);
            }
            b.refusedClears("ride of none from 0 on", x -> x.ride(3, 0, 0, 0), -100);
            b.refusedClears("ride of none from the end on", x -> x.ride(3, 0, 31, 0), -100);
        });
        b.of(10, EMPTY, () -> {
            for (int i : new int[] {-1, 6, 60, MIN, MAX}) {
                b.faulted("sit of none from " + i + " on", x -> x.sit(0, 1, i, 0, 0), Bounds.INDEX);
            }
            b.refusedClears("sit of none from 0 on", x -> x.sit(0, 1, 0, 0, 0), Bounds.OUTSIDE);
            b.refusedClears("sit of none from the end on", x -> x.sit(0, 1, 5, 0, 0), Bounds.OUTSIDE);
        });
        b.of(25, EMPTY, () -> {
            for (int i : new int[] {-1, 6, 60, MIN, MAX}) {
                b.faulted("copy of none from " + i + " on", x -> x.copy(0, i, 0, 0, 0), Bounds.INDEX);
                b.faulted("copy of none to " + i + " on", x -> x.copy(0, 0, 0, i, 0), Bounds.INDEX);
            }
            b.refusedClears("copy of none from the end on", x -> x.copy(0, 5, 0, 0, 0), 0);
            b.refusedClears("copy of none to the end on", x -> x.copy(0, 0, 0, 5, 0), 0);
        });
    }

    private static void answersOfFaults() {
        String answers = "it answers -10 less it (LOST, where a long is answered, as for refusals) and changes nothing";
        b.of(2, answers, () -> {
            b.faulted("NULL", x -> x.ride(2, 0, 0, 1), 1);
            b.faulted("CAST", x -> x.ride(3, 1, 0, 1), 2);
            b.faulted("INDEX", x -> x.ride(3, 0, -1, 1), 3);
            b.faulted("SIZE", x -> x.ride(3, 0, 0, -1), 4);
        });
        b.of(10, answers, () -> {
            b.faulted("NULL", x -> x.sit(2, 0, 0, 3, 0), 1);
            b.faulted("CAST", x -> x.sit(0, 0, 0, 3, 0), 2);
            b.faulted("INDEX", x -> x.sit(0, 1, 3, 3, 0), 3);
            b.faulted("SIZE", x -> x.sit(0, 1, 0, -1, 0), 4);
        });
        b.of(21, answers, () -> b.faulted("SIZE", x -> x.sheet(3, 0, -1), 4));
        b.of(23, answers, () -> {
            b.faulted("NULL", x -> x.put(2, 0, 1), 1);
            b.faulted("INDEX", x -> x.put(0, 5, 1), 3);
        });
        b.of(24, answers, () -> {
            b.lost("NULL", x -> x.cell(2, 0, 0), 1);
            b.lost("CAST", x -> x.cell(0, 0, 0), 2);
            b.lost("INDEX", x -> x.cell(0, 5, 1), 3);
        });
        b.of(25, answers, () -> {
            b.faulted("NULL", x -> x.copy(2, 0, 0, 0, 1), 1);
            b.faulted("CAST", x -> x.copy(0, 0, 1, 0, 1), 2);
            b.faulted("INDEX", x -> x.copy(0, 4, 0, 0, 2), 3);
        });
        b.of(28, answers, () -> b.faulted("CAST", x -> x.as(0, 1), 2));
        b.of(30, "fault() tells it", () -> {
            YearDeck x = Bounds.onARide();
            b.due("a fault", x.put(2, 0, 1), -11);
            b.due("fault()", x.fault(), 1);
            b.due("asked again", x.fault(), 1);
        });
    }
}
