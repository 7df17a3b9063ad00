/** Promises 21 (sheet) to 25 (copy), and 30 (fault). */
final class SheetsTest {
    private static final Check check = new Check("SheetsTest");
    private static final int[] NO_SHEETS = {-1, 4, Check.MIN, Check.MAX};

    public static void main(String[] args) {
        sheets();
        loses();
        puts();
        cutsToLanes();
        cells();
        copies();
        copiesWithinOne();
        copyRefusals();
        faultsOfCalls();
        check.end();
    }

    private static void sheets() {
        YearDeck x = new YearDeck();
        for (int k : NO_SHEETS) {
            check.due("no sheet", x.sheet(k, 3, -1), YearDeck.UNKNOWN);
        }
        check.due("lane 3", x.sheet(0, 3, -1), YearDeck.OUTSIDE);
        check.due("lane -1", x.sheet(0, -1, -1), YearDeck.OUTSIDE);
        check.due("n 61", x.sheet(0, 0, 61), YearDeck.OUTSIDE);
        check.due("n far above", x.sheet(0, 0, Check.MAX), YearDeck.OUTSIDE);
        check.due("n -1", x.sheet(0, 0, -1), -14);
        check.due("fault SIZE", x.fault(), 4);
        check.due("n least", x.sheet(0, 0, Check.MIN), -14);
        check.due("none of that made a row", x.lose(0), 0);
        check.due("n 60", x.sheet(0, 0, 60), 1);
        check.due("its last cell", x.cell(0, 59, 0), 0);
        check.due("behind it", x.cell(0, 60, 0), YearDeck.LOST);
        x.put(0, 59, 7);
        check.due("refused changes nothing", x.sheet(0, 0, 61), YearDeck.OUTSIDE);
        check.due("a fault changes nothing", x.sheet(0, 1, -1), -14);
        check.due("its last cell is as it was", x.cell(0, 59, 0), 7);
        check.due("a new row", x.sheet(0, 2, 60), 1);
        check.due("is 0", x.cell(0, 59, 2), 0);
        x.put(0, 0, 5);
        x.sheet(0, 2, 60);
        check.due("is 0 from its first cell on", x.cell(0, 0, 2), 0);
        x.put(0, 30, 5);
        x.sheet(0, 2, 10);
        x.sheet(0, 2, 60);
        check.due("is 0 behind a shorter one, too", x.cell(0, 30, 2), 0);
        check.due("n 0", x.sheet(1, 1, 0), 1);
        check.due("has no cell", x.cell(1, 0, 1), YearDeck.LOST);
        check.due("of fault INDEX", x.fault(), 3);
    }

    private static void loses() {
        YearDeck x = new YearDeck();
        for (int k : NO_SHEETS) {
            check.due("no sheet", x.lose(k), YearDeck.UNKNOWN);
        }
        check.due("had nothing", x.lose(2), 0);
        x.sheet(2, 0, 0);
        check.due("had a row of 0", x.lose(2), 1);
        check.due("has nothing", x.lose(2), 0);
        check.due("a cell of nothing", x.cell(2, 0, 0), YearDeck.LOST);
        check.due("is NULL", x.fault(), 1);
    }

    private static void puts() {
        YearDeck x = new YearDeck();
        for (int k : NO_SHEETS) {
            check.due("no sheet", x.put(k, 0, 0), YearDeck.UNKNOWN);
        }
        check.due("nothing", x.put(0, -1, 0), -11);
        check.due("fault NULL", x.fault(), 1);
        x.sheet(0, 2, 3);
        check.due("cell -1", x.put(0, -1, 5), -13);
        check.due("fault INDEX", x.fault(), 3);
        check.due("cell 3", x.put(0, 3, 5), -13);
        check.due("cell most", x.put(0, Check.MAX, 5), -13);
        check.due("cell least", x.put(0, Check.MIN, 5), -13);
        check.due("cell 2", x.put(0, 2, 5), 1);
        check.due("fault none", x.fault(), 0);
        check.due("cell 0", x.put(0, 0, -5), 1);
        check.due("they are so", x.cell(0, 2, 2) * 100 + x.cell(0, 1, 2) * 10 + x.cell(0, 0, 2), 495);
    }

    private static void cutsToLanes() {
        int[] told = {127, 128, 255, 256, -129, 32767, 32768, 65535, 65536, 70001, Check.MAX, Check.MIN};
        YearDeck x = new YearDeck();
        for (int lane = 0; lane < 3; lane++) {
            x.sheet(lane, lane, 1);
        }
        for (int v : told) {
            for (int lane = 0; lane < 3; lane++) {
                x.put(lane, 0, v);
            }
            check.due(v + " as a byte", x.cell(0, 0, 0), (byte) v);
            check.due(v + " as a short", x.cell(1, 0, 1), (short) v);
            check.due(v + " as an int", x.cell(2, 0, 2), v);
        }
    }

    private static void cells() {
        YearDeck x = new YearDeck();
        lost("no sheet", x, x.cell(4, -1, 3), 0);
        lost("sheet -1", x, x.cell(-1, -1, 0), 0);
        lost("lane 3", x, x.cell(0, -1, 3), 0);
        lost("lane -1", x, x.cell(0, -1, -1), 0);
        lost("nothing is no cast", x, x.cell(0, -1, 1), 1);
        x.sheet(0, 1, 2);
        lost("another lane", x, x.cell(0, -1, 0), 2);
        lost("another lane, too", x, x.cell(0, 0, 2), 2);
        lost("cell -1", x, x.cell(0, -1, 1), 3);
        lost("cell 2", x, x.cell(0, 2, 1), 3);
        lost("refused again", x, x.cell(0, 2, 3), 0);
        x.put(0, 1, -300);
        check.due("cell 1", x.cell(0, 1, 1), -300);
        check.due("fault none", x.fault(), 0);
    }

    private static void lost(String what, YearDeck x, long got, int fault) {
        check.due(what, got, YearDeck.LOST);
        check.due(what + ": fault", x.fault(), fault);
    }

    private static void copies() {
        YearDeck x = new YearDeck();
        Check.row(x, 0, Check.SHORTS, 1, 2, 3, 4);
        x.sheet(1, 1, 6);
        check.due("copy", x.copy(0, 1, 1, 2, 3), 3);
        row(x, 1, 1, 0, 0, 2, 3, 4, 0);
        row(x, 0, 1, 1, 2, 3, 4);
        x.put(0, 1, 9);
        check.due("they are cells of their own", x.cell(1, 2, 1), 2);
        check.due("copy none", x.copy(0, 4, 1, 6, 0), 0);
        check.due("copy all", x.copy(0, 0, 1, 2, 4), 4);
        row(x, 1, 1, 0, 0, 1, 9, 3, 4);
    }

    private static void copiesWithinOne() {
        YearDeck x = new YearDeck();
        Check.row(x, 2, Check.INTS, 1, 2, 3, 4, 5);
        check.due("to behind", x.copy(2, 0, 2, 1, 4), 4);
        row(x, 2, 2, 1, 1, 2, 3, 4);
        Check.row(x, 2, Check.INTS, 1, 2, 3, 4, 5);
        check.due("to ahead", x.copy(2, 1, 2, 0, 4), 4);
        row(x, 2, 2, 2, 3, 4, 5, 5);
        check.due("to itself", x.copy(2, 0, 2, 0, 5), 5);
        row(x, 2, 2, 2, 3, 4, 5, 5);
    }

    private static void copyRefusals() {
        YearDeck x = new YearDeck();
        Check.row(x, 0, Check.BYTES, 1, 2, 3);
        Check.row(x, 1, Check.BYTES, 4, 5);
        x.sheet(2, 1, 5);
        for (int k : NO_SHEETS) {
            check.due("no first", x.copy(k, -1, 0, -1, -1), YearDeck.UNKNOWN);
            check.due("no other", x.copy(3, -1, k, -1, -1), YearDeck.UNKNOWN);
        }
        check.due("the first is nothing", x.copy(3, -1, 0, -1, -1), -11);
        check.due("fault NULL", x.fault(), 1);
        check.due("the other is nothing", x.copy(0, -1, 3, -1, -1), -11);
        check.due("one nothing", x.copy(3, 0, 3, 0, 0), -11);
        check.due("unlike lanes", x.copy(0, -1, 2, -1, -1), -12);
        check.due("fault CAST", x.fault(), 2);
        int[][] wrong = {{-1, 0, 0}, {0, -1, 0}, {0, 0, -1}, {4, 0, 0}, {0, 3, 0}, {0, 0, 3}, {1, 0, 3}, {2, 0, 2},
            {0, 1, 2}, {1, 0, Check.MAX}, {0, 1, Check.MAX}, {Check.MAX, 0, 1}, {0, Check.MAX, 1}, {0, 0, Check.MIN}};
        for (int[] w : wrong) {
            check.due("index", x.copy(0, w[0], 1, w[1], w[2]), -13);
            check.due("fault INDEX", x.fault(), 3);
        }
        row(x, 0, 0, 1, 2, 3);
        row(x, 1, 0, 4, 5);
        check.due("within", x.copy(0, 1, 1, 0, 2), 2);
        check.due("fault none", x.fault(), 0);
    }

    private static void faultsOfCalls() {
        YearDeck x = Check.riding("u1,2;r010000");
        String[] names = {"ride", "sit", "sheet", "put", "cell", "copy", "as"};
        for (int k = 0; k < names.length; k++) {
            x.put(0, 0, 0);
            check.due("a fault ahead of " + names[k], x.fault(), 1);
            refuse(x, k);
            check.due(names[k] + " refused clears it", x.fault(), 0);
        }
        x.put(0, 0, 0);
        x.ofRider(9, 9);
        x.slope(9);
        x.tilt(9, 9);
        x.seat(9);
        x.wish(9, 9);
        x.gain(9, 9);
        x.age(9, 9);
        x.way(9, 9);
        x.spread(0);
        x.agree(9, 9, 9);
        x.most();
        x.reading(9, 9, 9);
        x.back(9);
        x.slopes(0);
        x.kinds(0);
        x.began(0, 0);
        x.odds(0, 0, 0);
        x.lose(0);
        x.lose(9);
        x.tell(0);
        x.ring(0);
        x.trace();
        x.fault();
        x.many(9);
        check.due("calls that name none leave it", x.fault(), 1);
    }

    private static void refuse(YearDeck x, int call) {
        switch (call) {
            case 0: x.ride(9, 0, 0, 0); break;
            case 1: x.sit(9, 0, 0, 0, 0); break;
            case 2: x.sheet(9, 0, 0); break;
            case 3: x.put(9, 0, 0); break;
            case 4: x.cell(9, 0, 0); break;
            case 5: x.copy(9, 0, 0, 0, 0); break;
            default: x.as(9, 0); break;
        }
    }

    private static void row(YearDeck x, int k, int lane, int... due) {
        for (int i = 0; i < due.length; i++) {
            check.due("cell " + i + " of sheet " + k, x.cell(k, i, lane), due[i]);
        }
        check.due("the row's end", x.cell(k, due.length, lane), YearDeck.LOST);
    }
}
