import java.util.function.Supplier;

/** Boundaries of the promises 21 (sheet) to 25 (copy). */
final class SheetBounds {
    private static final int[] LOWEST = {Byte.MIN_VALUE, Short.MIN_VALUE, Check.MIN};
    private static final int[] TOPMOST = {Byte.MAX_VALUE, Short.MAX_VALUE, Check.MAX};
    private static Bounds b;

    static void all(Bounds bounds) {
        b = bounds;
        b.of(21, "A SHEET gets a new row: 1", SheetBounds::newRows);
        b.of(21, "UNKNOWN", SheetBounds::newRowOfNoSheet);
        b.of(21, "OUTSIDE: lane", SheetBounds::newRowOfNoLane);
        b.of(21, "n above 60", SheetBounds::newRowTooLong);
        b.of(21, "SIZE", SheetBounds::newRowBelowNone);
        b.of(21, "SHEETS 0 .. 3 have nothing (at first), or a row of 0 .. 60 numbers (0 at first) of a LANE",
            SheetBounds::zeroAtFirst);

        b.of(22, "A SHEET has nothing: 1", SheetBounds::loses);
        b.of(22, "0: it had nothing", SheetBounds::losesNothing);
        b.of(22, "UNKNOWN", SheetBounds::losesNoSheet);

        b.of(23, "Cell i of a SHEET becomes v: 1", SheetBounds::puts);
        b.of(23, "what comes to a cell of it is cut to its LANE", SheetBounds::cuts);
        b.of(23, "UNKNOWN", SheetBounds::putToNoSheet);
        b.of(23, "NULL", SheetBounds::putToNothing);
        b.of(23, "INDEX", SheetBounds::putBeyond);

        b.of(24, "Cell i of what a SHEET has, taken as a row of a LANE", SheetBounds::cells);
        b.of(24, "LOST: UNKNOWN", SheetBounds::cellOfNoSheet);
        b.of(24, "OUTSIDE: lane", SheetBounds::cellOfNoLane);
        b.of(24, "FAULTS CAST (nothing is no CAST)", SheetBounds::cellOfAnotherLane);
        b.of(24, "NULL", SheetBounds::cellOfNothing);
        b.of(24, "INDEX", SheetBounds::cellBeyond);

        b.of(25, "n cells of a SHEET from i on go to another one (perhaps the same) from j on", SheetBounds::copies);
        b.of(25, "as they were: n", SheetBounds::copiesWithinOne);
        b.of(25, "UNKNOWN", SheetBounds::copyOfNoSheet);
        b.of(25, "FAULTS NULL (the first, the other)", SheetBounds::copyOfNothing);
        b.of(25, "CAST (unlike LANES)", SheetBounds::copyOfUnlikeLanes);
        b.of(25, "INDEX: i, j, n below 0 or beyond", SheetBounds::copyBeyond);
    }

    // ---- 21 sheet

    private static void newRows() {
        for (int k = 0; k < 4; k++) {
            for (int lane = 0; lane < 3; lane++) {
                for (int n : new int[] {0, 1, 59, 60}) {
                    YearDeck x = new YearDeck();
                    b.due("sheet(" + k + ", " + lane + ", " + n + ")", x.sheet(k, lane, n), 1);
                    b.due("fault() then", x.fault(), 0);
                    row("then", x, k, lane, new int[n]);
                }
            }
        }
    }

    private static void row(String call, YearDeck x, int k, int lane, int... due) {
        for (int i = 0; i < due.length; i++) {
            b.due(call + ": cell " + i + " of sheet " + k, x.cell(k, i, lane), due[i]);
        }
        b.due(call + ": behind the last cell of sheet " + k, x.cell(k, due.length, lane), Bounds.LOST);
        b.due(call + ": fault there", x.fault(), Bounds.INDEX);
    }

    private static void newRowOfNoSheet() {
        for (int k : Bounds.beyond(3)) {
            b.refusedClears("sheet " + k, x -> x.sheet(k, 0, 5), Bounds.UNKNOWN);
        }
    }

    private static void newRowOfNoLane() {
        for (int lane : Bounds.beyond(2)) {
            b.refusedClears("sheet of lane " + lane, x -> x.sheet(0, lane, 5), Bounds.OUTSIDE);
        }
    }

    private static void newRowTooLong() {
        for (int n : new int[] {61, 62, 92, 124, 256, 316, 65536, 65596, Check.MAX - 1, Check.MAX}) {
            for (int lane = 0; lane < 3; lane++) {
                int taken = lane;
                b.refusedClears("sheet of " + n + " cells", x -> x.sheet(0, taken, n), Bounds.OUTSIDE);
            }
        }
    }

    private static void newRowBelowNone() {
        for (int n : new int[] {-1, -2, -60, -61, Check.MIN, Check.MIN + 1}) {
            for (int k = 0; k < 4; k++) {
                int sheet = k;
                b.faulted("sheet " + k + " of " + n + " cells", x -> x.sheet(sheet, 1, n), Bounds.SIZE);
            }
        }
    }

    private static void zeroAtFirst() {
        YearDeck x = new YearDeck();
        x.sheet(0, 2, 60);
        for (int i = 0; i < 60; i++) {
            x.put(0, i, -1);
        }
        x.sheet(0, 2, 60);
        row("a new row in a full one's place", x, 0, 2, new int[60]);
        x.put(0, 5, 7);
        x.sheet(0, 2, 5);
        row("a shorter one", x, 0, 2, new int[5]);
        x.sheet(0, 2, 6);
        row("a longer one again", x, 0, 2, new int[6]);
        YearDeck y = new YearDeck();
        Check.row(y, 1, Check.INTS, 70000, 70000);
        y.lose(1);
        y.sheet(1, 0, 2);
        row("a row where one was lost", y, 1, 0, 0, 0);
        b.due("of no other lane", y.cell(1, 0, 2), Bounds.LOST);
    }

    // ---- 22 lose

    private static void loses() {
        for (int k = 0; k < 4; k++) {
            for (int n : new int[] {0, 1, 60}) {
                YearDeck x = new YearDeck();
                x.sheet(k, 1, n);
                b.due("lose(" + k + ") of " + n + " cells", x.lose(k), 1);
                b.due("lose(" + k + ") again", x.lose(k), 0);
                b.due("put to it", x.put(k, 0, 1), -11);
            }
        }
        YearDeck x = Bounds.noRide();
        x.lose(1);
        row("the one ahead stays", x, 0, 0, 1, 2, 3);
        row("the one behind stays", x, 2, 2, 7, 8, 9);
    }

    private static void losesNothing() {
        b.refused("lose of nothing", x -> x.lose(2), 0);
        YearDeck x = new YearDeck();
        for (int k = 0; k < 4; k++) {
            b.due("lose(" + k + ") at first", x.lose(k), 0);
        }
        x.sheet(0, 0, -1);
        b.due("lose behind a length below 0", x.lose(0), 0);
    }

    private static void losesNoSheet() {
        for (int k : Bounds.beyond(3)) {
            b.refused("lose of " + k, x -> x.lose(k), Bounds.UNKNOWN);
        }
    }

    // ---- 23 put

    private static void puts() {
        for (int lane = 0; lane < 3; lane++) {
            YearDeck x = new YearDeck();
            x.sheet(0, lane, 60);
            x.sheet(1, lane, 60);
            int[] due = new int[60];
            for (int i : new int[] {0, 1, 58, 59}) {
                due[i] = i + 1;
                b.due("put(0, " + i + ", " + (i + 1) + ")", x.put(0, i, i + 1), 1);
                b.due("fault() then", x.fault(), 0);
            }
            row("then", x, 0, lane, due);
            row("another sheet stays", x, 1, lane, new int[60]);
        }
    }

    private static void cuts() {
        for (int lane = 0; lane < 3; lane++) {
            YearDeck x = new YearDeck();
            x.sheet(0, lane, 1);
            cut(x, lane, LOWEST[lane], LOWEST[lane]);
            cut(x, lane, TOPMOST[lane], TOPMOST[lane]);
            cut(x, lane, TOPMOST[lane] + 1, LOWEST[lane]);
            cut(x, lane, LOWEST[lane] - 1, TOPMOST[lane]);
            cut(x, lane, 0, 0);
            cut(x, lane, -1, -1);
        }
        YearDeck x = new YearDeck();
        x.sheet(0, 0, 1);
        cut(x, 0, 255, -1);
        cut(x, 0, 256, 0);
        cut(x, 0, Check.MAX, -1);
        cut(x, 0, Check.MIN, 0);
        x.sheet(0, 1, 1);
        cut(x, 1, 65535, -1);
        cut(x, 1, 65536, 0);
        cut(x, 1, Check.MAX, -1);
        cut(x, 1, Check.MIN, 0);
    }

    private static void cut(YearDeck x, int lane, int v, int due) {
        b.due("put(0, 0, " + v + ")", x.put(0, 0, v), 1);
        b.due(v + " cut to lane " + lane, x.cell(0, 0, lane), due);
    }

    private static void putToNoSheet() {
        for (int k : Bounds.beyond(3)) {
            b.refusedClears("put to " + k, x -> x.put(k, 0, 9), Bounds.UNKNOWN);
        }
    }

    private static void putToNothing() {
        for (int i : new int[] {0, -1, 60, Check.MIN, Check.MAX}) {
            b.faulted("put to cell " + i + " of nothing", x -> x.put(2, i, 9), Bounds.NULL);
        }
    }

    private static void putBeyond() {
        for (int i : Bounds.beyond(4)) {
            b.faulted("put to cell " + i + " of 5", x -> x.put(0, i, 9), Bounds.INDEX);
        }
        Supplier<YearDeck> empty = () -> {
            YearDeck x = new YearDeck();
            x.sheet(1, 2, 0);
            return x;
        };
        for (int i : new int[] {0, 1, -1}) {
            b.faulted("put to cell " + i + " of an empty row", empty, x -> x.put(1, i, 9), Bounds.INDEX);
        }
        Supplier<YearDeck> longest = () -> {
            YearDeck x = new YearDeck();
            x.sheet(1, 2, 60);
            return x;
        };
        b.faulted("put behind the longest row", longest, x -> x.put(1, 60, 9), Bounds.INDEX);
    }

    // ---- 24 cell

    private static void cells() {
        YearDeck x = Bounds.noRide();
        x.put(2, 0, Check.MIN);
        x.put(2, 2, Check.MAX);
        row("bytes", x, 0, 0, 1, 2, 3);
        row("shorts", x, 1, 1, 4, 5, 6);
        row("ints", x, 2, 2, Check.MIN, 8, Check.MAX);
        x.cell(2, 0, 0);
        b.due("a cell behind a fault", x.cell(2, 0, 2), Check.MIN);
        b.due("fault() then", x.fault(), 0);
    }

    private static void cellOfNoSheet() {
        for (int k : Bounds.beyond(3)) {
            b.lost("cell of " + k, x -> x.cell(k, 0, 0), 0);
        }
    }

    private static void cellOfNoLane() {
        for (int lane : Bounds.beyond(2)) {
            b.lost("cell of lane " + lane, x -> x.cell(0, 0, lane), 0);
            b.lost("cell of nothing of lane " + lane, x -> x.cell(2, 0, lane), 0);
        }
    }

    private static void cellOfAnotherLane() {
        int[] lanes = {1, 2, -1, 0};
        for (int k = 0; k < 4; k++) {
            for (int lane = 0; lane < 3; lane++) {
                int sheet = k;
                int taken = lane;
                if (lane != lanes[k]) {
                    b.lost("cell of sheet " + k + " as of lane " + lane, x -> x.cell(sheet, 0, taken),
                        k == 2 ? Bounds.NULL : Bounds.CAST);
                }
            }
        }
        YearDeck x = new YearDeck();
        x.sheet(0, 2, 0);
        x.cell(0, 0, 1);
        b.due("an empty row is of its lane alone", x.fault(), Bounds.CAST);
    }

    private static void cellOfNothing() {
        for (int i : new int[] {0, -1, 60, Check.MIN, Check.MAX}) {
            b.lost("cell " + i + " of nothing", x -> x.cell(2, i, 0), Bounds.NULL);
        }
    }

    private static void cellBeyond() {
        for (int i : Bounds.beyond(4)) {
            b.lost("cell " + i + " of 5", x -> x.cell(0, i, 1), Bounds.INDEX);
        }
        YearDeck x = new YearDeck();
        x.sheet(0, 0, 0);
        b.due("cell 0 of an empty row", x.cell(0, 0, 0), Bounds.LOST);
        b.due("fault() of it", x.fault(), Bounds.INDEX);
        x.sheet(0, 0, 60);
        b.due("the last cell of the longest row", x.cell(0, 59, 0), 0);
        b.due("one behind", x.cell(0, 60, 0), Bounds.LOST);
    }

    // ---- 25 copy

    private static YearDeck rows() {
        YearDeck x = new YearDeck();
        Check.row(x, 0, Check.SHORTS, 1, 2, 3, 4);
        Check.row(x, 1, Check.SHORTS, 5, 6, 7);
        return x;
    }

    private static void copies() {
        YearDeck x = rows();
        b.due("the last to the first", x.copy(0, 3, 1, 0, 1), 1);
        row("then", x, 1, 1, 4, 6, 7);
        b.due("the first to the last", x.copy(0, 0, 1, 2, 1), 1);
        row("then", x, 1, 1, 4, 6, 1);
        b.due("as many as the other has", x.copy(0, 1, 1, 0, 3), 3);
        row("then", x, 1, 1, 2, 3, 4);
        row("the first stays", x, 0, 1, 1, 2, 3, 4);
        b.refusedClears("none", SheetBounds::rows, y -> y.copy(0, 0, 1, 0, 0), 0);
        b.refusedClears("none, at both ends", SheetBounds::rows, y -> y.copy(0, 4, 1, 3, 0), 0);
        YearDeck longest = new YearDeck();
        longest.sheet(2, 2, 60);
        longest.sheet(3, 2, 60);
        longest.put(2, 0, Check.MIN);
        longest.put(2, 59, Check.MAX);
        b.due("sixty", longest.copy(2, 0, 3, 0, 60), 60);
        b.due("the first of sixty", longest.cell(3, 0, 2), Check.MIN);
        b.due("the last of sixty", longest.cell(3, 59, 2), Check.MAX);
    }

    private static void copiesWithinOne() {
        for (int i = 0; i <= 4; i++) {
            for (int j = 0; j <= 4; j++) {
                for (int n = 0; n <= 4 - Math.max(i, j); n++) {
                    YearDeck x = rows();
                    int[] due = {1, 2, 3, 4};
                    for (int p = 0; p < n; p++) {
                        due[j + p] = i + p + 1;
                    }
                    b.due(n + " from " + i + " to " + j + " of one", x.copy(0, i, 0, j, n), n);
                    row("then", x, 0, 1, due);
                }
            }
        }
    }

    private static void copyOfNoSheet() {
        for (int k : Bounds.beyond(3)) {
            b.refusedClears("copy of " + k, x -> x.copy(k, 0, 0, 0, 1), Bounds.UNKNOWN);
            b.refusedClears("copy to " + k, x -> x.copy(0, 0, k, 0, 1), Bounds.UNKNOWN);
            b.refusedClears("copy of nothing to " + k, x -> x.copy(2, 0, k, 0, 1), Bounds.UNKNOWN);
        }
    }

    private static void copyOfNothing() {
        b.faulted("copy of nothing", x -> x.copy(2, 0, 0, 0, 1), Bounds.NULL);
        b.faulted("copy to nothing", x -> x.copy(0, 0, 2, 0, 1), Bounds.NULL);
        b.faulted("copy of nothing to itself", x -> x.copy(2, 0, 2, 0, 1), Bounds.NULL);
        b.faulted("copy of no cells of nothing", x -> x.copy(2, 0, 0, 0, 0), Bounds.NULL);
        b.faulted("copy of no cells to nothing", x -> x.copy(0, 0, 2, 0, 0), Bounds.NULL);
    }

    private static void copyOfUnlikeLanes() {
        int[] rows = {0, 1, 3};
        for (int k : rows) {
            for (int other : rows) {
                if (k != other) {
                    b.faulted("copy of " + k + " to " + other, x -> x.copy(k, 0, other, 0, 1), Bounds.CAST);
                    b.faulted("copy of no cells of " + k + " to " + other, x -> x.copy(k, 0, other, 0, 0), Bounds.CAST);
                }
            }
        }
    }

    private static void copyBeyond() {
        int[][] wrong = {{-1, 0, 0}, {-1, 0, 1}, {5, 0, 0}, {4, 0, 1}, {3, 0, 2}, {0, -1, 0}, {0, -1, 1}, {0, 4, 0},
            {0, 3, 1}, {0, 2, 2}, {0, 0, 4}, {0, 0, -1}, {4, 3, -1}, {1, 1, Check.MAX}, {Check.MAX, 0, 1},
            {0, Check.MAX, 1}, {Check.MAX, Check.MAX, Check.MAX}, {Check.MIN, 0, 0}, {0, Check.MIN, 0},
            {0, 0, Check.MIN}, {Check.MIN, 0, Check.MIN}};
        for (int[] w : wrong) {
            String call = "copy of " + w[2] + " cells from " + w[0] + " on to " + w[1] + " on";
            b.faulted(call, SheetBounds::rows, x -> x.copy(0, w[0], 1, w[1], w[2]), Bounds.INDEX);
        }
        b.faulted("copy of one too many within one", SheetBounds::rows, x -> x.copy(0, 0, 0, 1, 4), Bounds.INDEX);
        b.due("as many as there is room for", rows().copy(0, 1, 1, 0, 3), 3);
    }
}
