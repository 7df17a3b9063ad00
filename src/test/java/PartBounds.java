/** Boundaries of the promises 26 (tell) to 31 (many). */
final class PartBounds {
    private static Bounds b;

    static void all(Bounds bounds) {
        b = bounds;
        b.of(26, "TELLING of a RIDER", PartBounds::youngestAndEldest);
        b.of(26, "UNKNOWN", PartBounds::tellOfNone);
        b.of(26, "RIDER (1): AGE", () -> tells('r', 5, 5, 1));
        b.of(26, "LAD (2): what RIDER's gives, and 100", () -> tells('l', 5, 105, 2, 1));
        b.of(26, "ELDER (3): what LAD's gives, and what RIDER's gives (LAD's left out)",
            () -> tells('e', 5, 110, 3, 2, 1, 1));

        b.of(27, "How they are RUNG for", PartBounds::rings);
        b.of(27, "UNKNOWN", PartBounds::ringOfNone);
        b.of(27, "RUNG for by a lent body (4): their number", PartBounds::lentBody);
        b.of(27, "ELDERS have their own (5): 60", PartBounds::eldersBody);

        b.of(28, "A RIDER, taken as one of a kind: 1", PartBounds::takenAsTheyAre);
        b.of(28, "UNKNOWN", PartBounds::takenOfNone);
        b.of(28, "OUTSIDE", PartBounds::takenBeyond);
        b.of(28, "CAST: they are none", PartBounds::takenAsTheyAreNot);

        b.of(29, "TRACE", PartBounds::traceAtFirst);
        b.of(29, "TRACE (an int that wraps, 0 at first, becomes 31 times it and the number)", PartBounds::traceWraps);

        b.of(30, "The FAULT of the latest call that names one: 0: it came to none, or was refused", PartBounds::latest);
        b.of(30, "(0 ahead of any)", PartBounds::aheadOfAny);

        b.of(31, "How many: 0 RIDERS, 1 SECTIONS, 2 SEATS, 3 READINGS", PartBounds::fewestAndMost);
        b.of(31, "(0 all without a RIDE)", PartBounds::manyWithoutARide);
        b.of(31, "OUTSIDE", PartBounds::manyBeyond);
    }

    // ---- 26 tell

    private static void youngestAndEldest() {
        YearDeck x = Check.riding("u0,3;r010099;l010099;e010099;r017999");
        int[] due = {0, 100, 100, 79};
        for (int a = 0; a < 4; a++) {
            b.due("tell(" + a + ")", x.tell(a), due[a]);
        }
        YearDeck y = Check.riding("u0,3;e017999;l017999");
        b.due("the eldest elder", y.tell(0), 79 + 100 + 79);
        b.due("the eldest lad", y.tell(1), 179);
    }

    private static void tellOfNone() {
        for (int a : Bounds.beyond(2)) {
            b.refused("tell of " + a, x -> x.tell(a), Bounds.UNKNOWN);
        }
        b.refused("tell of 4", RideBounds::fourRiders, x -> x.tell(4), Bounds.UNKNOWN);
        b.refused("tell without a ride", Bounds::noRide, x -> x.tell(0), Bounds.UNKNOWN);
    }

    private static void tells(char letter, int age, int due, int... bodies) {
        YearDeck x = Check.riding("u0,3;" + letter + "010" + age + "99");
        b.due("tell of " + letter, x.tell(0), due);
        b.due("trace by " + letter, x.trace(), traced(0, bodies));
        b.due("tell of " + letter + " again", x.tell(0), due);
        b.due("trace by both", x.trace(), traced(traced(0, bodies), bodies));
    }

    /** By longs, and cut at the end, so that it does not wrap as the class does. */
    private static int traced(int before, int... bodies) {
        long trace = before;
        for (int body : bodies) {
            trace = trace * 31 + body;
        }
        return (int) (trace & 0xFFFFFFFFL);
    }

    // ---- 27 ring

    private static void rings() {
        YearDeck x = Check.riding("u0,3;e010000;r010000;e010000;l010000");
        int[] due = {60, 1, 60, 3};
        for (int a = 0; a < 4; a++) {
            b.due("ring(" + a + ")", x.ring(a), due[a]);
        }
        b.due("trace by 5, 4, 5, 4", x.trace(), traced(0, 5, 4, 5, 4));
    }

    private static void ringOfNone() {
        for (int a : Bounds.beyond(2)) {
            b.refused("ring of " + a, x -> x.ring(a), Bounds.UNKNOWN);
        }
        b.refused("ring of 4", RideBounds::fourRiders, x -> x.ring(4), Bounds.UNKNOWN);
        b.refused("ring without a ride", Bounds::noRide, x -> x.ring(0), Bounds.UNKNOWN);
    }

    private static void lentBody() {
        for (char letter : new char[] {'r', 'l'}) {
            String one = ";" + letter + "015000";
            YearDeck x = Check.riding("u0,3" + one + one + one + one);
            int trace = 0;
            for (int a = 3; a >= 0; a--) {
                b.due("ring(" + a + ") of " + letter, x.ring(a), a);
                trace = traced(trace, 4);
                b.due("trace then", x.trace(), trace);
            }
        }
    }

    private static void eldersBody() {
        YearDeck x = Check.riding("u0,3;e010000;e015000;e015000;e017900");
        int trace = 0;
        for (int a = 3; a >= 0; a--) {
            b.due("ring(" + a + ")", x.ring(a), 60);
            trace = traced(trace, 5);
            b.due("trace then", x.trace(), trace);
        }
    }

    // ---- 28 as

    private static void takenAsTheyAre() {
        for (int a = 0; a < 3; a++) {
            for (int kind = 0; kind <= a; kind++) {
                int rider = a;
                int taken = kind;
                b.refusedClears("as(" + a + ", " + kind + ")", x -> x.as(rider, taken), 1);
            }
        }
    }

    private static void takenOfNone() {
        for (int a : Bounds.beyond(2)) {
            b.refusedClears("as of " + a, x -> x.as(a, 0), Bounds.UNKNOWN);
        }
        b.refusedClears("as of 4", RideBounds::fourRiders, x -> x.as(4, 0), Bounds.UNKNOWN);
        b.refusedClears("as without a ride", Bounds::noRide, x -> x.as(0, 0), Bounds.UNKNOWN);
    }

    private static void takenBeyond() {
        for (int kind : Bounds.beyond(2)) {
            for (int a = 0; a < 3; a++) {
                int rider = a;
                b.refusedClears("as(" + a + ", " + kind + ")", x -> x.as(rider, kind), Bounds.OUTSIDE);
            }
        }
    }

    private static void takenAsTheyAreNot() {
        b.faulted("a rider as a lad", x -> x.as(0, 1), Bounds.CAST);
        b.faulted("a rider as an elder", x -> x.as(0, 2), Bounds.CAST);
        b.faulted("a lad as an elder", x -> x.as(1, 2), Bounds.CAST);
    }

    // ---- 29 trace

    private static void traceAtFirst() {
        b.due("trace of a new object", new YearDeck().trace(), 0);
        YearDeck x = Check.riding(Bounds.RIDE);
        b.due("trace of a ride that none has told of", x.trace(), 0);
        x.tell(3);
        x.ring(-1);
        b.due("trace behind refused calls", x.trace(), 0);
        x.ring(0);
        b.due("trace", x.trace(), 4);
        b.due("trace, asked again", x.trace(), 4);
    }

    private static void traceWraps() {
        YearDeck x = Check.riding("u0,3;e010000;r010000;l010000");
        int trace = 0;
        boolean below = false;
        boolean above = false;
        for (int k = 0; k < 100; k++) {
            if (k % 3 == 0) {
                x.ring(0);
                trace = traced(trace, 5);
            } else if (k % 3 == 1) {
                x.tell(1);
                trace = traced(trace, 1);
            } else {
                x.tell(2);
                trace = traced(traced(trace, 2), 1);
            }
            b.due("trace by " + (k + 1) + " calls", x.trace(), trace);
            below |= trace < 0;
            above |= below && trace > 0;
        }
        b.due("it has wrapped, and again", above ? 1 : 0, 1);
    }

    // ---- 30 fault

    private static void latest() {
        YearDeck x = Bounds.onARide();
        x.put(2, 0, 0);
        b.due("NULL", x.fault(), 1);
        x.cell(0, 0, 0);
        b.due("CAST behind NULL", x.fault(), 2);
        x.put(0, 5, 0);
        b.due("INDEX behind CAST", x.fault(), 3);
        x.sheet(0, 0, -1);
        b.due("SIZE behind INDEX", x.fault(), 4);
        b.due("asked again", x.fault(), 4);
        x.as(0, 2);
        b.due("CAST behind SIZE", x.fault(), 2);
        x.as(0, 0);
        b.due("none behind CAST", x.fault(), 0);
        x.sit(0, 1, 0, -1, 0);
        b.due("SIZE", x.fault(), 4);
        x.sit(0, 1, 0, 2, 0);
        b.due("refused behind SIZE", x.fault(), 0);
        x.ride(3, 0, 0, 32);
        b.due("INDEX", x.fault(), 3);
        x.ride(3, 0, 0, 30);
        b.due("a text that is not taken, behind INDEX", x.fault(), 0);
        x.copy(0, 0, 2, 0, 0);
        b.due("NULL again", x.fault(), 1);
        x.copy(0, 0, 0, 0, 0);
        b.due("none behind NULL", x.fault(), 0);
    }

    private static void aheadOfAny() {
        YearDeck x = new YearDeck();
        b.due("fault of a new object", x.fault(), 0);
        x.lose(0);
        x.most();
        x.tell(0);
        x.many(9);
        b.due("fault behind calls that name none", x.fault(), 0);
    }

    // ---- 31 many

    private static void fewestAndMost() {
        YearDeck x = Check.riding("u0,0;r010000");
        int[] fewest = {1, 1, 0, 0};
        for (int what = 0; what <= 3; what++) {
            b.due("fewest, many(" + what + ")", x.many(what), fewest[what]);
        }
        YearDeck y = RideBounds.fourRiders();
        for (int k = 0; k < 9; k++) {
            y.reading(0, 0, 0);
        }
        int[] most = {4, 5, 3, 8};
        for (int what = 0; what <= 3; what++) {
            b.due("most, many(" + what + ")", y.many(what), most[what]);
        }
    }

    private static void manyWithoutARide() {
        YearDeck x = Bounds.noRide();
        x.ride(0, 0, 0, 3);
        x.seat(3);
        x.reading(0, 0, 0);
        for (int what = 0; what <= 3; what++) {
            b.due("many(" + what + ") of a new object", new YearDeck().many(what), 0);
            b.due("many(" + what + ") behind refused calls", x.many(what), 0);
        }
    }

    private static void manyBeyond() {
        for (int what : Bounds.beyond(3)) {
            b.refused("many(" + what + ")", x -> x.many(what), Bounds.OUTSIDE);
            b.refused("many(" + what + ") without a ride", Bounds::noRide, x -> x.many(what), Bounds.OUTSIDE);
        }
    }
}
