import java.util.function.Supplier;

/** Boundaries of the promises 1 (a new object) to 8 (gain). */
final class RideBounds {
    private static Bounds b;

    static void all(Bounds bounds) {
        b = bounds;
        b.of(1, "No RIDE (no SECTIONS, RIDERS)", RideBounds::newHasNoRide);
        b.of(1, "SHEETS have nothing", RideBounds::newHasNothing);

        b.of(2, "A RIDE by a TEXT of n cells of a SHEET from i on", RideBounds::cellsFromOn);
        b.of(2, "-100 less the FIRST FAULT", RideBounds::lessTheFirstFault);
        b.of(2, "UNKNOWN", RideBounds::rideOfNoSheet);
        b.of(2, "OUTSIDE: lane", RideBounds::rideOfNoLane);
        b.of(2, "CAST (nothing is no CAST)", RideBounds::rideOfAnotherLane);
        b.of(2, "NULL", RideBounds::rideOfNothing);
        b.of(2, "SIZE: n below 0", RideBounds::rideOfLessThanNone);
        b.of(2, "INDEX", RideBounds::rideBeyond);
        b.of(2, "-100 less it", RideBounds::notTaken);

        b.of(3, "Of a RIDER: 0 kind, 1 ON, 2 OFF, 3 AGE, 4 WANT, 5 their SECTIONS, as a set", RideBounds::ofRiders);
        b.of(3, "UNKNOWN", RideBounds::ofNoRider);
        b.of(3, "OUTSIDE", RideBounds::ofRiderWhat);
        b.of(3, "Their SECTIONS are all from where they get ON to where they get OFF", RideBounds::theirSections);

        b.of(4, "SLOPE of a SECTION", RideBounds::slopesOfAll);
        b.of(4, "UNKNOWN", RideBounds::slopeOfNone);

        b.of(5, "SLOPE of a SECTION becomes v (0 .. 3): what it was", RideBounds::tilts);
        b.of(5, "UNKNOWN", RideBounds::tiltOfNone);
        b.of(5, "OUTSIDE", RideBounds::tiltBeyond);

        b.of(6, "SEATS become v (0 .. 3): how many there were", RideBounds::seats);
        b.of(6, "OUTSIDE", RideBounds::seatBeyond);
        b.of(6, "STATE: there is no RIDE", RideBounds::seatWithoutARide);

        b.of(7, "WANT of a RIDER becomes v (0 .. 99): what it was", RideBounds::wishes);
        b.of(7, "UNKNOWN", RideBounds::wishOfNone);
        b.of(7, "OUTSIDE", RideBounds::wishBeyond);

        b.of(8, "GAIN of a RIDER on a SECTION (be it one of theirs or not)", RideBounds::gainsOfAnySection);
        b.of(8, "of a RIDER its SLOPE", () -> gains('r', 0, 1, 2, 3));
        b.of(8, "of a LAD 1 more", () -> gains('l', 1, 2, 3, 4));
        b.of(8, "of an ELDER half of what a LAD's is", () -> gains('e', 0, 1, 1, 2));
        b.of(8, "Quotients are cut", RideBounds::quotientsAreCut);
        b.of(8, "UNKNOWN", RideBounds::gainOfNone);
    }

    // ---- 1 a new object

    private static void newHasNoRide() {
        YearDeck x = new YearDeck();
        for (int what = 0; what <= 3; what++) {
            b.due("many(" + what + ")", x.many(what), 0);
        }
        b.due("slope(0)", x.slope(0), Bounds.UNKNOWN);
        b.due("tilt(0, 0)", x.tilt(0, 0), Bounds.UNKNOWN);
        b.due("slopes(0)", x.slopes(0), Bounds.UNKNOWN);
        b.due("ofRider(0, 0)", x.ofRider(0, 0), Bounds.UNKNOWN);
        b.due("wish(0, 0)", x.wish(0, 0), Bounds.UNKNOWN);
        b.due("gain(0, 0)", x.gain(0, 0), Bounds.UNKNOWN);
        b.due("age(0, 0)", x.age(0, 0), Bounds.UNKNOWN);
        b.due("way(0, 0)", x.way(0, 0), Bounds.UNKNOWN);
        b.due("spread(0)", x.spread(0), Bounds.UNKNOWN);
        b.due("agree(0, 1, 0)", x.agree(0, 1, 0), Bounds.UNKNOWN);
        b.due("reading(0, 0, 0)", x.reading(0, 0, 0), Bounds.UNKNOWN);
        b.due("kinds(0)", x.kinds(0), Bounds.UNKNOWN);
        b.due("began(0, 0)", x.began(0, 0), Bounds.UNKNOWN);
        b.due("odds(0, 0, 0)", x.odds(0, 0, 0), Bounds.LOST);
        b.due("tell(0)", x.tell(0), Bounds.UNKNOWN);
        b.due("ring(0)", x.ring(0), Bounds.UNKNOWN);
        b.due("as(0, 0)", x.as(0, 0), Bounds.UNKNOWN);
        b.due("seat(0)", x.seat(0), Bounds.STATE);
        b.due("most()", x.most(), Bounds.STATE);
        b.due("sit(0, 0, 0, 0, 0)", x.sit(0, 0, 0, 0, 0), Bounds.STATE);
        Check.riding(Bounds.RIDE);
        b.due("many(0), though another object has riders", x.many(0), 0);
    }

    private static void newHasNothing() {
        for (int k = 0; k < 4; k++) {
            int sheet = k;
            b.refused("lose of " + k, YearDeck::new, x -> x.lose(sheet), 0);
            b.faulted("put of " + k, YearDeck::new, x -> x.put(sheet, 0, 1), Bounds.NULL);
            b.faulted("copy of " + k, YearDeck::new, x -> x.copy(sheet, 0, sheet, 0, 0), Bounds.NULL);
            for (int lane = 0; lane < 3; lane++) {
                YearDeck x = new YearDeck();
                b.due("ride of " + k, x.ride(k, lane, 0, 0), -11);
                b.due("cell of " + k, x.cell(k, 0, lane), Bounds.LOST);
                b.due("fault of it", x.fault(), Bounds.NULL);
            }
        }
    }

    // ---- 2 ride

    private static void cellsFromOn() {
        String text = "u1,2;r012030";
        for (int lane = 0; lane < 3; lane++) {
            for (int i : new int[] {0, 1, 47, 48}) {
                YearDeck x = new YearDeck();
                x.sheet(1, lane, 60);
                for (int p = 0; p < 12; p++) {
                    x.put(1, i + p, text.charAt(p));
                }
                b.due("from " + i + " on, lane " + lane, x.ride(1, lane, i, 12), 1);
                b.due("want by it", x.ofRider(0, 4), 30);
                b.due("all but the last", x.ride(1, lane, i, 11), -111);
                b.due("one more", x.ride(1, lane, i, 13), i == 48 ? -13 : -112);
                b.due("one behind", x.ride(1, lane, i + 1, 11), -100);
            }
        }
    }

    private static void lessTheFirstFault() {
        b.due("first fault 0", Check.rideOf(new YearDeck(), "x"), -100);
        b.due("first fault 40", Check.rideOf(new YearDeck(), "u3,33333;e057999;l051000;r230101;r450000;"), -140);
        b.due("first fault 40 of 60", Check.rideOf(new YearDeck(),
            "u3,33333;e057999;l051000;r230101;r450000;r450000;r450000xxxx"), -140);
        YearDeck x = new YearDeck();
        Check.write(x, 0, Check.INTS, "????u1,4");
        b.due("the place is the text's, not the row's", x.ride(0, 2, 4, 4), -103);
        b.due("no machine's fault", x.fault(), 0);
    }

    private static void rideOfNoSheet() {
        for (int sheet : Bounds.beyond(3)) {
            b.refusedClears("ride of sheet " + sheet, x -> x.ride(sheet, 0, 0, 31), Bounds.UNKNOWN);
        }
    }

    private static void rideOfNoLane() {
        for (int lane : Bounds.beyond(2)) {
            b.refusedClears("ride of lane " + lane, x -> x.ride(3, lane, 0, 31), Bounds.OUTSIDE);
        }
    }

    private static void rideOfAnotherLane() {
        for (int lane = 0; lane < 3; lane++) {
            for (int k = 0; k < 3; k++) {
                int sheet = k;
                int taken = lane;
                if (lane != k) {
                    b.faulted("ride of a row of lane " + k + " as " + lane, Bounds::noRide,
                        x -> x.ride(sheet, taken, 0, 0), Bounds.CAST);
                } else {
                    b.refusedClears("ride of a row of lane " + k + " as it is", Bounds::noRide,
                        x -> x.ride(sheet, taken, 0, 0), -100);
                }
            }
            int taken = lane;
            b.faulted("ride of nothing as " + lane, Bounds::noRide, x -> x.ride(3, taken, 0, 0), Bounds.NULL);
        }
    }

    private static void rideOfNothing() {
        b.faulted("ride of nothing", x -> x.ride(2, 0, 0, 12), Bounds.NULL);
        b.faulted("ride of no cells of nothing", x -> x.ride(2, 0, 0, 0), Bounds.NULL);
        YearDeck x = Check.riding("u1,2;r012030");
        x.lose(3);
        b.due("ride of what was lost", x.ride(3, 0, 0, 12), -11);
        b.due("the ride stays, though its text is lost", x.many(0), 1);
    }

    private static void rideOfLessThanNone() {
        for (int n : new int[] {-1, -2, -31, Check.MIN, Check.MIN + 1}) {
            b.faulted("ride of " + n + " cells", x -> x.ride(3, 0, 0, n), Bounds.SIZE);
            b.faulted("ride of " + n + " cells from the row's end on", x -> x.ride(3, 0, 31, n), Bounds.SIZE);
        }
        b.refusedClears("ride of 0 cells", x -> x.ride(3, 0, 0, 0), -100);
    }

    private static void rideBeyond() {
        int[][] beyond = {{-1, 0}, {-1, 1}, {-1, 32}, {32, 0}, {32, 1}, {31, 1}, {0, 32}, {1, 31}, {30, 2}, {0, 60},
            {1, Check.MAX}, {Check.MAX, 1}, {Check.MAX, Check.MAX}, {Check.MIN, 0}, {Check.MIN, Check.MAX}};
        for (int[] cells : beyond) {
            b.faulted("ride of " + cells[1] + " cells from " + cells[0] + " on", x -> x.ride(3, 0, cells[0], cells[1]),
                Bounds.INDEX);
        }
        b.refusedClears("ride of no cells at the row's end", x -> x.ride(3, 0, 31, 0), -100);
        b.refusedClears("ride of the last cell", x -> x.ride(3, 0, 30, 1), -100);
        b.due("ride of all cells", Bounds.onARide().ride(3, 0, 0, 31), 3);
    }

    private static void notTaken() {
        String[] wrong = {"", "x", "u", "u2,0;r012030x", "u0,1111;r010000;r010000;r010000;r01000", "u3,1;r010080;l01x"};
        for (String text : wrong) {
            Supplier<YearDeck> object = () -> {
                YearDeck x = Bounds.onARide();
                Check.write(x, 2, Check.BYTES, text);
                return x;
            };
            int place = text.equals("x") ? 0 : text.endsWith("x") ? text.length() - 1 : text.length();
            b.refusedClears("ride by " + text, object, x -> x.ride(2, 0, 0, text.length()), -100 - place);
        }
    }

    // ---- 3 ofRider

    private static void ofRiders() {
        YearDeck x = Check.riding("u1,21302;r050099;l157900;e450510;r010000");
        int[][] due = {{0, 0, 5, 0, 99, 31}, {1, 1, 5, 79, 0, 30}, {2, 4, 5, 5, 10, 16}, {0, 0, 1, 0, 0, 1}};
        for (int a = 0; a < 4; a++) {
            for (int what = 0; what <= 5; what++) {
                b.due("ofRider(" + a + ", " + what + ")", x.ofRider(a, what), due[a][what]);
            }
        }
    }

    private static void ofNoRider() {
        for (int a : Bounds.beyond(2)) {
            b.refused("ofRider of " + a, x -> x.ofRider(a, 0), Bounds.UNKNOWN);
        }
        for (int a : Bounds.beyond(3)) {
            b.refused("ofRider of " + a + " of four", RideBounds::fourRiders, x -> x.ofRider(a, 0), Bounds.UNKNOWN);
        }
        b.refused("ofRider without a ride", Bounds::noRide, x -> x.ofRider(0, 0), Bounds.UNKNOWN);
    }

    private static void ofRiderWhat() {
        for (int what : Bounds.beyond(5)) {
            b.refused("ofRider, what " + what, x -> x.ofRider(2, what), Bounds.OUTSIDE);
        }
    }

    private static void theirSections() {
        for (int on = 0; on < 5; on++) {
            for (int off = on + 1; off <= 5; off++) {
                YearDeck x = Check.riding("u1,00000;l" + on + off + "0000");
                int due = 0;
                for (int s = on; s < off; s++) {
                    due += 1 << s;
                }
                b.due("sections from " + on + " to " + off, x.ofRider(0, 5), due);
                for (int s = 0; s < 6; s++) {
                    b.due("above on " + s, x.age(0, 1 << s), s >= on && s < off ? 1 : Bounds.OUTSIDE);
                }
            }
        }
    }

    // ---- 4 slope, 5 tilt

    private static void slopesOfAll() {
        YearDeck x = Check.riding("u1,32103;r010000");
        int[] due = {3, 2, 1, 0, 3};
        for (int s = 0; s < 5; s++) {
            b.due("slope(" + s + ")", x.slope(s), due[s]);
        }
        b.due("slope(0) of one section", Check.riding("u1,0;r010000").slope(0), 0);
    }

    private static void slopeOfNone() {
        for (int s : Bounds.beyond(3)) {
            b.refused("slope of " + s, x -> x.slope(s), Bounds.UNKNOWN);
        }
        for (int s : Bounds.beyond(4)) {
            b.refused("slope of " + s + " of five", RideBounds::fourRiders, x -> x.slope(s), Bounds.UNKNOWN);
        }
        b.refused("slope without a ride", Bounds::noRide, x -> x.slope(0), Bounds.UNKNOWN);
        YearDeck x = Check.riding("u1,33333;r010000");
        Check.rideOf(x, "u1,3;r010000");
        b.due("slope of what a former ride had", x.slope(1), Bounds.UNKNOWN);
    }

    private static void tilts() {
        for (int s = 0; s < 5; s++) {
            YearDeck x = Check.riding("u1,11111;l050000");
            int was = 1;
            for (int v : new int[] {0, 3, 2, 2, 1, 0}) {
                b.due("tilt(" + s + ", " + v + ")", x.tilt(s, v), was);
                for (int other = 0; other < 5; other++) {
                    b.due("slope(" + other + ") then", x.slope(other), other == s ? v : 1);
                }
                b.due("age by it", x.age(0, 1 << s), v + 1);
                was = v;
            }
        }
    }

    private static void tiltOfNone() {
        for (int s : Bounds.beyond(3)) {
            b.refused("tilt of " + s, x -> x.tilt(s, 1), Bounds.UNKNOWN);
        }
        for (int s : Bounds.beyond(4)) {
            b.refused("tilt of " + s + " of five", RideBounds::fourRiders, x -> x.tilt(s, 1), Bounds.UNKNOWN);
        }
        b.refused("tilt without a ride", Bounds::noRide, x -> x.tilt(0, 1), Bounds.UNKNOWN);
    }

    private static void tiltBeyond() {
        for (int v : Bounds.beyond(3)) {
            b.refused("tilt by " + v, x -> x.tilt(3, v), Bounds.OUTSIDE);
        }
    }

    // ---- 6 seat, 7 wish

    private static void seats() {
        YearDeck x = Check.riding("u1,2;r010000");
        int was = 1;
        for (int v : new int[] {0, 3, 3, 2, 1, 0}) {
            b.due("seat(" + v + ")", x.seat(v), was);
            b.due("many(2) then", x.many(2), v);
            was = v;
        }
    }

    private static void seatBeyond() {
        for (int v : Bounds.beyond(3)) {
            b.refused("seat by " + v, x -> x.seat(v), Bounds.OUTSIDE);
        }
    }

    private static void seatWithoutARide() {
        for (int v = 0; v <= 3; v++) {
            int seats = v;
            b.refused("seat by " + v, Bounds::noRide, x -> x.seat(seats), Bounds.STATE);
        }
        YearDeck x = Bounds.noRide();
        x.ride(0, 0, 0, 3);
        b.due("seat behind a text that was not taken", x.seat(1), Bounds.STATE);
    }

    private static void wishes() {
        YearDeck x = Check.riding("u1,2;r010050;r010051;r010052;r010053");
        for (int a = 0; a < 4; a++) {
            int was = 50 + a;
            for (int v : new int[] {0, 99, 1, 98, 98}) {
                b.due("wish(" + a + ", " + v + ")", x.wish(a, v), was);
                b.due("ofRider(" + a + ", 4) then", x.ofRider(a, 4), v);
                was = v;
            }
            if (a < 3) {
                b.due("the next one's want", x.ofRider(a + 1, 4), 51 + a);
            }
        }
    }

    private static void wishOfNone() {
        for (int a : Bounds.beyond(2)) {
            b.refused("wish of " + a, x -> x.wish(a, 5), Bounds.UNKNOWN);
        }
        for (int a : Bounds.beyond(3)) {
            b.refused("wish of " + a + " of four", RideBounds::fourRiders, x -> x.wish(a, 5), Bounds.UNKNOWN);
        }
        b.refused("wish without a ride", Bounds::noRide, x -> x.wish(0, 5), Bounds.UNKNOWN);
    }

    private static void wishBeyond() {
        for (int v : Bounds.beyond(99)) {
            b.refused("wish by " + v, x -> x.wish(2, v), Bounds.OUTSIDE);
        }
    }

    // ---- 8 gain

    private static void gainsOfAnySection() {
        YearDeck x = Check.riding("u0,32103;r010000;l450000;e230000");
        int[][] due = {{3, 2, 1, 0, 3}, {4, 3, 2, 1, 4}, {2, 1, 1, 0, 2}};
        for (int a = 0; a < 3; a++) {
            for (int s = 0; s < 5; s++) {
                b.due("gain(" + a + ", " + s + ")", x.gain(a, s), due[a][s]);
            }
        }
    }

    private static void gains(char letter, int... due) {
        for (int v = 0; v <= 3; v++) {
            YearDeck x = Check.riding("u1," + v + ";" + letter + "010000");
            b.due("gain of " + letter + " by slope " + v, x.gain(0, 0), due[v]);
            b.due("age of " + letter + " by slope " + v, x.age(0, 1), due[v]);
        }
    }

    private static void quotientsAreCut() {
        YearDeck x = Check.riding("u1,02;e020000");
        b.due("half of 1", x.gain(0, 0), 0);
        b.due("half of 3", x.gain(0, 1), 1);
        b.due("each is cut for itself: half of 1 and half of 3", x.age(0, 3), 1);
    }

    private static void gainOfNone() {
        for (int a : Bounds.beyond(2)) {
            b.refused("gain of rider " + a, x -> x.gain(a, 0), Bounds.UNKNOWN);
        }
        for (int s : Bounds.beyond(3)) {
            b.refused("gain on section " + s, x -> x.gain(0, s), Bounds.UNKNOWN);
        }
        b.refused("gain of rider 4", RideBounds::fourRiders, x -> x.gain(4, 0), Bounds.UNKNOWN);
        b.refused("gain on section 5", RideBounds::fourRiders, x -> x.gain(3, 5), Bounds.UNKNOWN);
        b.refused("gain without a ride", Bounds::noRide, x -> x.gain(0, 0), Bounds.UNKNOWN);
    }

    /** As many riders and sections as there may be. */
    static YearDeck fourRiders() {
        return Check.riding("u3,33333;e057999;l051000;r230101;r450000");
    }
}
