import java.util.Arrays;
import java.util.Collections;
import java.util.function.Supplier;

/** Boundaries of the promises 9 (age) and 10 (sit). */
final class SittingBounds {
    private static final int[] WHATS = {0, 1, 2, 3, 10, 11, 12, 13, 14, 20, 21, 22, 23};
    private static Bounds b;

    static void all(Bounds bounds) {
        b = bounds;
        b.of(9, "How old one gets OFF by a set", SittingBounds::ages);
        b.of(9, "By a set of their SECTIONS on which one sits above one gets OFF with AGE and all GAINS of these",
            SittingBounds::noneAndAllAbove);
        b.of(9, "UNKNOWN", SittingBounds::ageOfNone);
        b.of(9, "OUTSIDE: it is no set of their SECTIONS", SittingBounds::ageBySetsThatAreNot);
        b.of(9, "Sets are told as bits (bit k for number k)", SittingBounds::setsAreBits);

        b.of(10, "A SITTING of n such cells", SittingBounds::cellsOfARow);
        b.of(10, "A SITTING told: for each RIDER such a set", SittingBounds::forEachRider);
        b.of(10, "One is RIGHT, if that is WANT", SittingBounds::justAsOld);
        b.of(10, "how many are RIGHT (what 0)", SittingBounds::howManyAreRight);
        b.of(10, "its FIRST WRONG (1", SittingBounds::firstWrong);
        b.of(10, "FIRST WRONG: the first SECTION on which more sit above than there are SEATS",
            SittingBounds::moreThanSeats);
        b.of(10, "NONE), who is RIGHT, as a set (2)", SittingBounds::whoIsRight);
        b.of(10, "who gets OFF eldest (3", SittingBounds::eldest);
        b.of(10, "of several the least)", SittingBounds::eldestOfSeveral);
        b.of(10, "how many sit above on SECTION s (10 and s", SittingBounds::aboveOnSections);
        b.of(10, "NONE: there is no such SECTION)", SittingBounds::aboveOnNoSection);
        b.of(10, "how old RIDER a gets OFF (20 and a", SittingBounds::agesOfRiders);
        b.of(10, "NONE: there is no such RIDER)", SittingBounds::agesOfNoRider);
        b.of(10, "of one with a FIRST WRONG: -100 less that (but what 1)", SittingBounds::lessTheFirstWrong);
        b.of(10, "UNKNOWN: SHEET", SittingBounds::ofNoSheet);
        b.of(10, "OUTSIDE: lane", SittingBounds::ofNoLane);
        b.of(10, "what (0 .. 3, 10 .. 14, 20 .. 23)", SittingBounds::whatIsNot);
        b.of(10, "STATE: there is no RIDE", SittingBounds::withoutARide);
        b.of(10, "CAST", SittingBounds::ofAnotherLane);
        b.of(10, "NULL", SittingBounds::ofNothing);
        b.of(10, "SIZE", SittingBounds::ofLessThanNone);
        b.of(10, "INDEX", SittingBounds::beyondTheRow);
        b.of(10, "OUTSIDE: n is not how many RIDERS there are", SittingBounds::tooFewOrTooMany);
        b.of(10, "a cell is no set of that RIDER's SECTIONS", SittingBounds::cellsThatAreNoSets);
    }

    // ---- 9 age

    private static void ages() {
        YearDeck x = Check.riding("u0,33333;l057999;r050000");
        for (int set = 0; set < 32; set++) {
            b.due("the eldest there may be by " + set, x.age(0, set), 79 + 4 * Integer.bitCount(set));
            b.due("the youngest by " + set + ", whatever seats", x.age(1, set), 3 * Integer.bitCount(set));
        }
    }

    private static void noneAndAllAbove() {
        YearDeck x = Check.riding("u1,21302;r050099;l157900;e450510;r010000");
        int[] none = {0, 79, 5, 0};
        int[] all = {8, 79 + 2 + 4 + 1 + 3, 5 + 1, 2};
        for (int a = 0; a < 4; a++) {
            b.due("none above", x.age(a, 0), none[a]);
            b.due("all above", x.age(a, x.ofRider(a, 5)), all[a]);
        }
    }

    private static void ageOfNone() {
        for (int a : Bounds.beyond(2)) {
            b.refused("age of " + a, x -> x.age(a, 0), Bounds.UNKNOWN);
        }
        b.refused("age of 4", RideBounds::fourRiders, x -> x.age(4, 0), Bounds.UNKNOWN);
        b.refused("age without a ride", Bounds::noRide, x -> x.age(0, 0), Bounds.UNKNOWN);
    }

    private static void ageBySetsThatAreNot() {
        int[] own = {15, 3, 6};
        for (int a = 0; a < 3; a++) {
            for (int bit = 0; bit < 32; bit++) {
                int rider = a;
                int set = 1 << bit;
                if ((own[a] & set) == 0) {
                    b.refused("age of " + a + " by bit " + bit, x -> x.age(rider, set), Bounds.OUTSIDE);
                    b.refused("age of " + a + " by all theirs and bit " + bit, x -> x.age(rider, own[rider] | set),
                        Bounds.OUTSIDE);
                }
            }
            int rider = a;
            b.refused("age by all bits", x -> x.age(rider, -1), Bounds.OUTSIDE);
        }
        b.refused("age by a sixth section", RideBounds::fourRiders, x -> x.age(0, 32), Bounds.OUTSIDE);
    }

    private static void setsAreBits() {
        YearDeck x = Check.riding("u0,32103;r050000");
        int[] due = {3, 2, 1, 0, 3};
        for (int s = 0; s < 5; s++) {
            b.due("age by bit " + s, x.age(0, 1 << s), due[s]);
        }
    }

    // ---- 10 sit

    /** On a ride by this text, with these sets as bytes on sheet 0. */
    private static YearDeck sitting(String text, int... sets) {
        YearDeck x = Check.riding(text);
        Check.row(x, 0, Check.BYTES, sets);
        return x;
    }

    private static int sit(YearDeck x, int what) {
        return x.sit(0, 0, 0, x.many(0), what);
    }

    private static void cellsOfARow() {
        for (int lane = 0; lane < 3; lane++) {
            YearDeck x = Check.riding("u3,1111;r040000;r040000;r040000");
            x.sheet(1, lane, 60);
            for (int i : new int[] {0, 1, 56, 57}) {
                x.put(1, i, 1);
                x.put(1, i + 1, 3);
                x.put(1, i + 2, 15);
                for (int a = 0; a < 3; a++) {
                    b.due("age of " + a + " from " + i + " on", x.sit(1, lane, i, 3, 20 + a), a == 2 ? 4 : a + 1);
                }
            }
            x.put(1, 0, 16 - 1 + 256);
            b.due("a set of a cell that is cut, lane " + lane, x.sit(1, lane, 0, 3, 20), lane == 0 ? 4 : Bounds.OUTSIDE);
        }
    }

    private static void forEachRider() {
        for (int n = 1; n <= 4; n++) {
            YearDeck x = sitting("u3,1;" + String.join(";", Collections.nCopies(n, "r010000")), new int[n]);
            for (int a = 0; a < n; a++) {
                x.put(0, a, 1);
                for (int other = 0; other < n; other++) {
                    b.due("age of " + other + " as " + a + " of " + n + " sits above", sit(x, 20 + other),
                        other == a ? 1 : 0);
                }
                x.put(0, a, 0);
            }
        }
    }

    private static void justAsOld() {
        YearDeck x = sitting("u1,2130;r042023", 5);
        for (int want = 0; want <= 99; want++) {
            x.wish(0, want);
            b.due("right, if 25 is " + want, sit(x, 0), want == 25 ? 1 : 0);
        }
        YearDeck y = sitting("u1,0;r010000", 0);
        b.due("right by nothing at all", sit(y, 0), 1);
    }

    private static void howManyAreRight() {
        for (int who = 0; who < 16; who++) {
            YearDeck x = fourWith(who);
            b.due("how many of " + who, sit(x, 0), Integer.bitCount(who));
        }
    }

    private static void whoIsRight() {
        for (int who = 0; who < 16; who++) {
            YearDeck x = fourWith(who);
            b.due("who of " + who, sit(x, 2), who);
        }
    }

    /** Four riders of whom just these are right. */
    private static YearDeck fourWith(int who) {
        YearDeck x = sitting("u3,1;r010001;r010101;r010202;r010303", 1, 0, 0, 0);
        for (int a = 0; a < 4; a++) {
            if ((who >> a & 1) == 0) {
                x.wish(a, 99);
            }
        }
        return x;
    }

    private static void firstWrong() {
        YearDeck x = sitting("u0,00000;l050000;l050000", 0, 0);
        b.due("none", sit(x, 1), Bounds.NONE);
        for (int s = 4; s >= 0; s--) {
            x.put(0, 0, 31 & -1 << s);
            b.due("from section " + s + " on", sit(x, 1), s);
        }
        x.seat(1);
        b.due("none with a seat", sit(x, 1), Bounds.NONE);
        x.put(0, 1, 16);
        b.due("the last one", sit(x, 1), 4);
        x.put(0, 1, 18);
        b.due("of two the first", sit(x, 1), 1);
    }

    private static void moreThanSeats() {
        for (int seats = 0; seats <= 3; seats++) {
            YearDeck x = sitting("u" + seats + ",00000;r050000;r050000;r050000;r050000", 0, 0, 0, 0);
            for (int s = 0; s < 5; s++) {
                for (int above = 0; above <= 4; above++) {
                    for (int a = 0; a < 4; a++) {
                        x.put(0, a, a < above ? 1 << s : 0);
                    }
                    b.due(above + " above on " + s + ", seats " + seats, sit(x, 1), above > seats ? s : Bounds.NONE);
                }
            }
        }
        YearDeck many = sitting("u1,00000;r050000;r050000;r050000;r050000", 1, 2, 4, 8);
        b.due("four above, but each on a section of their own", sit(many, 1), Bounds.NONE);
    }

    private static void eldest() {
        for (int a = 0; a < 4; a++) {
            YearDeck x = sitting("u3,3;l017500;l017500;l017500;l017500", 0, 0, 0, 0);
            x.put(0, a, 1);
            b.due("eldest as " + a + " sits above", sit(x, 3), a);
        }
        YearDeck one = sitting("u0,0;r010000", 0);
        b.due("eldest of one of no age", sit(one, 3), 0);
    }

    private static void eldestOfSeveral() {
        b.due("all alike", sit(sitting("u0,1;r010500;r010500;r010500;r010500", 0, 0, 0, 0), 3), 0);
        b.due("of the last two", sit(sitting("u0,1;r010000;r010400;r010500;r010500", 0, 0, 0, 0), 3), 2);
        b.due("of the first and the last", sit(sitting("u0,1;r010500;r010400;r010300;r010500", 0, 0, 0, 0), 3), 0);
        b.due("by sitting above", sit(sitting("u3,1;r010500;r010400;r010500;r010500", 0, 1, 0, 0), 3), 0);
        b.due("all of age 0", sit(sitting("u0,1;r010000;r010000", 0, 0), 3), 0);
    }

    private static void aboveOnSections() {
        YearDeck x = sitting("u3,00000;r050000;r050000;r050000;r050000", 16, 24, 28, 2);
        int[] due = {0, 1, 1, 2, 3};
        for (int s = 0; s < 5; s++) {
            b.due("above on " + s, sit(x, 10 + s), due[s]);
        }
    }

    private static void aboveOnNoSection() {
        for (int sections = 1; sections <= 5; sections++) {
            YearDeck x = sitting("u1," + "1".repeat(sections) + ";r010000", 1);
            for (int s = 0; s < 5; s++) {
                int due = s >= sections ? Bounds.NONE : s == 0 ? 1 : 0;
                b.due("above on " + s + " of " + sections, sit(x, 10 + s), due);
            }
        }
    }

    private static void agesOfRiders() {
        YearDeck x = sitting("u3,33333;l057900;r050000;e051000;r450500", 31, 0, 31, 16);
        int[] due = {99, 0, 20, 8};
        for (int a = 0; a < 4; a++) {
            b.due("age of " + a, sit(x, 20 + a), due[a]);
        }
    }

    private static void agesOfNoRider() {
        for (int n = 1; n <= 4; n++) {
            int[] sets = new int[n];
            Arrays.fill(sets, 1);
            YearDeck x = sitting("u3,1;" + String.join(";", Collections.nCopies(n, "r010500")), sets);
            x.put(0, 0, 0);
            for (int a = 0; a < 4; a++) {
                int due = a >= n ? Bounds.NONE : a == 0 ? 5 : 6;
                b.due("age of " + a + " of " + n, sit(x, 20 + a), due);
            }
        }
    }

    private static void lessTheFirstWrong() {
        for (int sections = 1; sections <= 5; sections++) {
            for (int s = 0; s < sections; s++) {
                YearDeck x = sitting("u0," + "1".repeat(sections) + ";r0" + sections + "0000", 1 << s);
                for (int what : WHATS) {
                    b.due("sit, what " + what + ", " + s + " of " + sections, sit(x, what), what == 1 ? s : -100 - s);
                }
                b.due("no machine's fault", x.fault(), 0);
            }
        }
    }

    // ---- refused sittings

    private static void ofNoSheet() {
        for (int sheet : Bounds.beyond(3)) {
            b.refusedClears("sit of sheet " + sheet, x -> x.sit(sheet, 1, 0, 3, 0), Bounds.UNKNOWN);
        }
    }

    private static void ofNoLane() {
        for (int lane : Bounds.beyond(2)) {
            b.refusedClears("sit of lane " + lane, x -> x.sit(0, lane, 0, 3, 0), Bounds.OUTSIDE);
        }
    }

    private static void whatIsNot() {
        int[] whats = {-1, -2, 4, 5, 8, 9, 15, 16, 18, 19, 24, 25, 32, 42, 256, 266, 65536, Check.MIN, Check.MAX};
        for (int what : whats) {
            b.refusedClears("sit, what " + what, x -> x.sit(0, 1, 0, 3, what), Bounds.OUTSIDE);
        }
        YearDeck x = RideBounds.fourRiders();
        Check.row(x, 0, Check.BYTES, 0, 0, 0, 0);
        for (int what : WHATS) {
            b.due("sit, what " + what + " is one", x.sit(0, 0, 0, 4, what) == Bounds.OUTSIDE ? 0 : 1, 1);
        }
    }

    private static void withoutARide() {
        for (int what : WHATS) {
            b.refusedClears("sit, what " + what, Bounds::noRide, x -> x.sit(0, 0, 0, 3, what), Bounds.STATE);
        }
        b.refusedClears("sit of no cells, as there are no riders", Bounds::noRide, x -> x.sit(0, 0, 0, 0, 0),
            Bounds.STATE);
    }

    private static void ofAnotherLane() {
        b.faulted("sit of shorts as bytes", x -> x.sit(0, 0, 0, 3, 0), Bounds.CAST);
        b.faulted("sit of shorts as ints", x -> x.sit(0, 2, 0, 3, 0), Bounds.CAST);
        b.faulted("sit of ints as bytes", x -> x.sit(1, 0, 0, 3, 0), Bounds.CAST);
        b.faulted("sit of ints as shorts", x -> x.sit(1, 1, 0, 3, 0), Bounds.CAST);
        b.faulted("sit of bytes as shorts", x -> x.sit(3, 1, 0, 3, 0), Bounds.CAST);
        b.faulted("sit of bytes as ints", x -> x.sit(3, 2, 0, 3, 0), Bounds.CAST);
        b.due("sit of shorts as shorts", Bounds.onARide().sit(0, 1, 0, 3, 1), Bounds.NONE);
    }

    private static void ofNothing() {
        for (int lane = 0; lane < 3; lane++) {
            int taken = lane;
            b.faulted("sit of nothing as " + lane, x -> x.sit(2, taken, 0, 3, 0), Bounds.NULL);
        }
    }

    private static void ofLessThanNone() {
        for (int n : new int[] {-1, -3, Check.MIN, Check.MIN + 3}) {
            b.faulted("sit of " + n + " cells", x -> x.sit(0, 1, 0, n, 0), Bounds.SIZE);
        }
        b.refusedClears("sit of 0 cells", x -> x.sit(0, 1, 0, 0, 0), Bounds.OUTSIDE);
    }

    private static void beyondTheRow() {
        int[][] beyond = {{-1, 3}, {-1, 0}, {3, 3}, {5, 3}, {6, 0}, {6, 3}, {0, 6}, {1, 5}, {3, Check.MAX},
            {Check.MAX, 3}, {Check.MAX, Check.MAX}, {Check.MIN, 3}};
        for (int[] cells : beyond) {
            b.faulted("sit of " + cells[1] + " cells from " + cells[0] + " on",
                x -> x.sit(0, 1, cells[0], cells[1], 0), Bounds.INDEX);
        }
        b.refusedClears("sit of no cells at the row's end", x -> x.sit(0, 1, 5, 0, 0), Bounds.OUTSIDE);
        Supplier<YearDeck> atEnd = () -> {
            YearDeck x = Bounds.onARide();
            Check.row(x, 2, Check.INTS, 99, 99, 0, 0, 0);
            return x;
        };
        b.refusedClears("sit of the last three cells", atEnd, x -> x.sit(2, 2, 2, 3, 1), Bounds.NONE);
    }

    private static void tooFewOrTooMany() {
        for (int n = 0; n <= 5; n++) {
            int cells = n;
            if (n != 3) {
                b.refusedClears("sit of " + n + " cells", x -> x.sit(1, 2, 0, cells, 1), Bounds.OUTSIDE);
            }
        }
        Supplier<YearDeck> four = () -> {
            YearDeck x = RideBounds.fourRiders();
            Check.row(x, 0, Check.BYTES, 0, 0, 0, 0, 0);
            return x;
        };
        for (int n = 0; n <= 5; n++) {
            int cells = n;
            b.refusedClears("sit of " + n + " cells of four riders", four, x -> x.sit(0, 0, 0, cells, 1),
                n == 4 ? Bounds.NONE : Bounds.OUTSIDE);
        }
    }

    private static void cellsThatAreNoSets() {
        int[] own = {15, 3, 6};
        for (int a = 0; a < 3; a++) {
            for (int bit = 0; bit < 32; bit++) {
                int rider = a;
                int set = 1 << bit;
                Supplier<YearDeck> object = () -> {
                    YearDeck x = Bounds.onARide();
                    Check.row(x, 2, Check.INTS, 0, 0, 0);
                    x.put(2, rider, set);
                    return x;
                };
                int due = (own[a] & set) == 0 ? Bounds.OUTSIDE : Bounds.NONE;
                b.refusedClears("sit with bit " + bit + " for " + a, object, x -> x.sit(2, 2, 0, 3, 1), due);
            }
        }
        YearDeck x = Bounds.onARide();
        x.seat(0);
        Check.row(x, 2, Check.INTS, 1, 0, 1);
        b.due("no set is told ahead of a first wrong", x.sit(2, 2, 0, 3, 1), Bounds.OUTSIDE);
    }
}
