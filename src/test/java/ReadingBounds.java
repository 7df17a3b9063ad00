/** Boundaries of the promises 15 (reading) to 20 (odds). */
final class ReadingBounds {
    private static Bounds b;

    static void all(Bounds bounds) {
        b = bounds;
        b.of(15, "A READING: its number", ReadingBounds::numbers);
        b.of(15, "UNKNOWN", ReadingBounds::readingOfNone);
        b.of(15, "OUTSIDE: set (of their SECTIONS)", ReadingBounds::readingByNoSet);
        b.of(15, "v (0 .. 199)", ReadingBounds::readingBeyond);
        b.of(15, "FULL", ReadingBounds::full);
        b.of(15, "READINGS, 8 at most, numbered by how many there are", ReadingBounds::eightAtMost);

        b.of(16, "The last k READINGS (0 .. as many as there are) are taken back: how many are left", ReadingBounds::backs);
        b.of(16, "OUTSIDE", ReadingBounds::backBeyond);

        b.of(17, "SLOPES, as a set", ReadingBounds::slopesByNone);
        b.of(17, "SLOPES of a SECTION: 0 .. 3, as a set", ReadingBounds::eachSlope);
        b.of(17, "UNKNOWN", ReadingBounds::slopesOfNone);
        b.of(17, "in place of what it is alone, by which all READINGS are so", ReadingBounds::slopesByAll);

        b.of(18, "KINDS, as a set", ReadingBounds::kindsByNone);
        b.of(18, "KINDS of a RIDER: 0 .. 2, as a set", ReadingBounds::eachKind);
        b.of(18, "UNKNOWN", ReadingBounds::kindsOfNone);
        b.of(18, "in place of what it is alone, by which all READINGS are so", ReadingBounds::kindsByAll);

        b.of(19, "BEGAN: how many (what 0), the least (1", ReadingBounds::beganByNone);
        b.of(19, "NONE)", ReadingBounds::beganNever);
        b.of(19, "BEGAN: AGES of a RIDER, 0 to 79: how many, the least", ReadingBounds::eachAge);
        b.of(19, "UNKNOWN", ReadingBounds::beganOfNone);
        b.of(19, "OUTSIDE", ReadingBounds::beganBeyond);
        b.of(19, "in place of what it is alone, by which all READINGS are so", ReadingBounds::beganByAll);

        b.of(20, "ODDS of v years (0 .. 199", ReadingBounds::oddsOfAllYears);
        b.of(20, "which 0 the upper, 1 the lower number)", ReadingBounds::oddsWhich);
        b.of(20, "LOST: UNKNOWN", ReadingBounds::oddsOfNone);
        b.of(20, "OUTSIDE", ReadingBounds::oddsBeyond);
        b.of(20, "all such sets alike (whatever SEATS there are)", ReadingBounds::oddsWhateverSeats);
        b.of(20, "the share by which one gets OFF with as many at least", ReadingBounds::asManyAtLeast);
        b.of(20, "Shares are told as upper and lower number (above 0) in least terms", ReadingBounds::leastTerms);
    }

    // ---- 15 reading

    private static void numbers() {
        YearDeck x = Check.riding("u0,33333;l057999;r010000");
        b.due("the first, of 0 years by none", x.reading(1, 0, 0), 0);
        b.due("the second, of 199 years by all", x.reading(0, 31, 199), 1);
        b.due("the same once more", x.reading(0, 31, 199), 2);
        b.due("readings", x.many(3), 3);
    }

    private static void readingOfNone() {
        for (int a : Bounds.beyond(2)) {
            b.refused("reading of " + a, x -> x.reading(a, 0, 20), Bounds.UNKNOWN);
        }
        b.refused("reading of 4", RideBounds::fourRiders, x -> x.reading(4, 0, 20), Bounds.UNKNOWN);
        b.refused("reading without a ride", Bounds::noRide, x -> x.reading(0, 0, 0), Bounds.UNKNOWN);
    }

    private static void readingByNoSet() {
        int[] own = {15, 3, 6};
        for (int a = 0; a < 3; a++) {
            for (int bit = 0; bit < 32; bit++) {
                int rider = a;
                int set = 1 << bit;
                if ((own[a] & set) == 0) {
                    b.refused("reading of " + a + " by bit " + bit, x -> x.reading(rider, set, 20), Bounds.OUTSIDE);
                } else {
                    b.due("reading of " + a + " by bit " + bit, Bounds.onARide().reading(a, set, 20), 2);
                }
            }
            int rider = a;
            b.refused("reading of " + a + " by all bits", x -> x.reading(rider, -1, 20), Bounds.OUTSIDE);
        }
    }

    private static void readingBeyond() {
        for (int v : Bounds.beyond(199)) {
            b.refused("reading of " + v + " years", x -> x.reading(0, 0, v), Bounds.OUTSIDE);
        }
        for (int v : new int[] {0, 1, 198, 199}) {
            b.due("reading of " + v + " years", Bounds.onARide().reading(0, 0, v), 2);
        }
    }

    private static YearDeck eightReadings() {
        YearDeck x = Check.riding("u1,2130;r042023;l021821;e131920");
        for (int k = 0; k < 8; k++) {
            x.reading(k % 3, 0, 18 + k);
        }
        return x;
    }

    private static void full() {
        b.refused("a ninth reading", ReadingBounds::eightReadings, x -> x.reading(0, 0, 20), Bounds.FULL);
        YearDeck x = eightReadings();
        x.back(1);
        b.due("an eighth again", x.reading(0, 0, 20), 7);
        b.due("a ninth again", x.reading(0, 0, 20), Bounds.FULL);
        x.back(8);
        b.due("a first again", x.reading(0, 0, 20), 0);
    }

    private static void eightAtMost() {
        YearDeck x = Check.riding("u1,2;r010000");
        for (int k = 0; k < 12; k++) {
            b.due("reading " + k, x.reading(0, 1, 2), k < 8 ? k : Bounds.FULL);
            b.due("readings", x.many(3), Math.min(8, k + 1));
        }
        b.due("eight that are so", x.began(0, 0), 1);
        x.back(1);
        x.reading(0, 1, 3);
        b.due("the eighth counts, too", x.began(0, 0), 0);
    }

    // ---- 16 back

    private static void backs() {
        for (int k = 0; k <= 8; k++) {
            YearDeck x = eightReadings();
            b.due("back(" + k + ") of 8", x.back(k), 8 - k);
            b.due("many(3) then", x.many(3), 8 - k);
            b.due("the next one's number", x.reading(0, 0, 20), k == 0 ? Bounds.FULL : 8 - k);
        }
        YearDeck x = Check.riding("u1,2;r010000");
        x.reading(0, 0, 11);
        x.reading(0, 0, 12);
        x.back(1);
        b.due("it is the last that is taken back", x.began(0, 1), 11);
        b.due("back(0) of none, on a ride", Check.riding("u1,2;r010000").back(0), 0);
        b.due("back(0) of none, without a ride", new YearDeck().back(0), 0);
    }

    private static void backBeyond() {
        for (int k : Bounds.beyond(2)) {
            b.refused("back(" + k + ") of 2", x -> x.back(k), Bounds.OUTSIDE);
        }
        for (int k : Bounds.beyond(8)) {
            b.refused("back(" + k + ") of 8", ReadingBounds::eightReadings, x -> x.back(k), Bounds.OUTSIDE);
        }
        for (int k : Bounds.beyond(0)) {
            b.refused("back(" + k + ") of none", Bounds::noRide, x -> x.back(k), Bounds.OUTSIDE);
        }
    }

    // ---- 17 slopes

    private static void slopesByNone() {
        YearDeck x = RideBounds.fourRiders();
        for (int s = 0; s < 5; s++) {
            b.due("slopes(" + s + ") by no readings: all four", x.slopes(s), 15);
        }
        x.reading(0, 0, 0);
        for (int s = 0; s < 5; s++) {
            b.due("slopes(" + s + ") by what can't be: none", x.slopes(s), 0);
        }
    }

    private static void eachSlope() {
        for (int s = 0; s < 5; s++) {
            YearDeck x = Check.riding("u1,11111;r051000");
            for (int v = 0; v <= 5; v++) {
                x.reading(0, 1 << s, 9 + v);
                b.due("slopes(" + s + ") by a gain of " + (v - 1), x.slopes(s), v >= 1 && v <= 4 ? 1 << (v - 1) : 0);
                x.back(1);
            }
            b.due("slope(" + s + ") is what it was", x.slope(s), 1);
        }
    }

    private static void slopesOfNone() {
        for (int s : Bounds.beyond(3)) {
            b.refused("slopes of " + s, x -> x.slopes(s), Bounds.UNKNOWN);
        }
        for (int s : Bounds.beyond(4)) {
            b.refused("slopes of " + s + " of five", RideBounds::fourRiders, x -> x.slopes(s), Bounds.UNKNOWN);
        }
        b.refused("slopes without a ride", Bounds::noRide, x -> x.slopes(0), Bounds.UNKNOWN);
    }

    private static void slopesByAll() {
        YearDeck x = Check.riding("u1,13;e020000;r020000");
        x.reading(0, 1, 1);
        b.due("an elder's 1: slopes 1 and 2", x.slopes(0), 6);
        x.reading(1, 3, 5);
        b.due("a rider's 5 of both, the other being 3: slope 2", x.slopes(0), 4);
        b.due("the other one's, the first being 1: slope 4 is none", x.slopes(1), 0);
        x.tilt(0, 2);
        b.due("the other one's, the first being 2: slope 3", x.slopes(1), 8);
        x.reading(1, 0, 1);
        b.due("one that can't be, the last: none", x.slopes(0), 0);
        b.due("asking has changed nothing", x.slope(0) * 10 + x.slope(1), 23);
    }

    // ---- 18 kinds

    private static void kindsByNone() {
        YearDeck x = RideBounds.fourRiders();
        for (int a = 0; a < 4; a++) {
            b.due("kinds(" + a + ") by no readings: all three", x.kinds(a), 7);
        }
        x.reading(0, 0, 0);
        for (int a = 0; a < 4; a++) {
            b.due("kinds(" + a + ") by what can't be: none", x.kinds(a), 0);
        }
    }

    private static void eachKind() {
        for (int a = 0; a < 4; a++) {
            YearDeck x = Check.riding("u1,3;r011000;l011000;e011000;r011000");
            int[] due = {0, 0, 4, 1, 2, 0};
            for (int v = 0; v <= 5; v++) {
                x.reading(a, 1, 10 + v);
                b.due("kinds(" + a + ") by a gain of " + v, x.kinds(a), due[v]);
                x.back(1);
            }
            b.due("kind of " + a + " is what it was", x.ofRider(a, 0), a % 3);
        }
    }

    private static void kindsOfNone() {
        for (int a : Bounds.beyond(2)) {
            b.refused("kinds of " + a, x -> x.kinds(a), Bounds.UNKNOWN);
        }
        b.refused("kinds of 4", RideBounds::fourRiders, x -> x.kinds(4), Bounds.UNKNOWN);
        b.refused("kinds without a ride", Bounds::noRide, x -> x.kinds(0), Bounds.UNKNOWN);
    }

    private static void kindsByAll() {
        YearDeck x = Check.riding("u1,01;r020000;l020000");
        x.reading(0, 1, 0);
        b.due("0 by slope 0: a rider or an elder", x.kinds(0), 5);
        x.reading(0, 2, 1);
        b.due("1 by slope 1: both still", x.kinds(0), 5);
        x.reading(0, 0, 0);
        b.due("0 by none: whoever", x.kinds(0), 5);
        x.reading(1, 1, 1);
        b.due("the other one is a lad", x.kinds(1), 2);
        b.due("which leaves the first", x.kinds(0), 5);
        x.reading(1, 1, 2);
        b.due("one that can't be, of the other: none", x.kinds(0), 0);
        b.due("asking has changed nothing", x.ofRider(0, 0) * 10 + x.ofRider(1, 0), 1);
    }

    // ---- 19 began

    private static void began(String call, YearDeck x, int a, int many, int least) {
        b.due(call + ": how many", x.began(a, 0), many);
        b.due(call + ": the least", x.began(a, 1), least);
    }

    private static void beganByNone() {
        YearDeck x = RideBounds.fourRiders();
        for (int a = 0; a < 4; a++) {
            began("rider " + a + " by no readings", x, a, 80, 0);
        }
    }

    private static void beganNever() {
        YearDeck x = Check.riding("u1,3;r011000;l011000");
        x.reading(0, 0, 80);
        began("80 by none", x, 0, 0, Bounds.NONE);
        x.back(1);
        x.reading(0, 1, 2);
        began("2 by a gain of 3", x, 0, 0, Bounds.NONE);
        x.back(1);
        x.reading(0, 0, 199);
        began("199 by none", x, 0, 0, Bounds.NONE);
        began("another one, as the first is not so", x, 1, 0, Bounds.NONE);
    }

    private static void eachAge() {
        YearDeck x = Check.riding("u1,3;r011000;l011000");
        for (int v = 0; v <= 85; v++) {
            x.reading(0, 1, v);
            int age = v - 3;
            boolean may = age >= 0 && age <= 79;
            began(v + " by a gain of 3", x, 0, may ? 1 : 0, may ? age : Bounds.NONE);
            x.back(1);
        }
        b.due("age is what it was", x.ofRider(0, 3), 10);
    }

    private static void beganOfNone() {
        for (int a : Bounds.beyond(2)) {
            b.refused("began of " + a, x -> x.began(a, 0), Bounds.UNKNOWN);
        }
        b.refused("began of 4", RideBounds::fourRiders, x -> x.began(4, 0), Bounds.UNKNOWN);
        b.refused("began without a ride", Bounds::noRide, x -> x.began(0, 0), Bounds.UNKNOWN);
    }

    private static void beganBeyond() {
        for (int what : Bounds.beyond(1)) {
            b.refused("began, what " + what, x -> x.began(0, what), Bounds.OUTSIDE);
        }
    }

    private static void beganByAll() {
        YearDeck x = Check.riding("u1,3;r011000;l011000");
        x.reading(1, 1, 14);
        began("free, as the other one is so", x, 0, 80, 0);
        x.reading(0, 0, 40);
        x.reading(0, 1, 43);
        began("two that are so by 40", x, 0, 1, 40);
        began("the other one's, as these are not so by 10", x, 1, 0, Bounds.NONE);
        x.reading(0, 0, 41);
        began("two that can't be at once", x, 0, 0, Bounds.NONE);
        b.due("asking has changed nothing", x.ofRider(0, 3) * 100 + x.ofRider(1, 3), 1010);
    }

    // ---- 20 odds

    private static void odds(String call, YearDeck x, int a, int v, int upper, int lower) {
        b.due(call + ": upper of " + v, x.odds(a, v, 0), upper);
        b.due(call + ": lower of " + v, x.odds(a, v, 1), lower);
    }

    private static void oddsOfAllYears() {
        YearDeck x = Check.riding("u1,3;r011000");
        for (int v = 0; v <= 199; v++) {
            odds("10 or 13", x, 0, v, v <= 13 ? 1 : 0, v > 10 && v <= 13 ? 2 : 1);
        }
        YearDeck y = Check.riding("u1,33333;l057900");
        odds("as old as one may get", y, 0, 99, 1, 32);
        odds("one more", y, 0, 100, 0, 1);
    }

    private static void oddsWhich() {
        for (int which : Bounds.beyond(1)) {
            b.refused("odds, which " + which, x -> x.odds(0, 20, which), Bounds.LOST);
        }
        odds("16 sets, 14 of them by 1 at least", Bounds.onARide(), 0, 21, 7, 8);
    }

    private static void oddsOfNone() {
        for (int a : Bounds.beyond(2)) {
            b.refused("odds of " + a, x -> x.odds(a, 20, 0), Bounds.LOST);
        }
        b.refused("odds of 4", RideBounds::fourRiders, x -> x.odds(4, 20, 0), Bounds.LOST);
        b.refused("odds without a ride", Bounds::noRide, x -> x.odds(0, 0, 0), Bounds.LOST);
    }

    private static void oddsBeyond() {
        for (int v : Bounds.beyond(199)) {
            b.refused("odds of " + v + " years", x -> x.odds(0, v, 0), Bounds.LOST);
            b.refused("odds of " + v + " years, lower", x -> x.odds(0, v, 1), Bounds.LOST);
        }
    }

    private static void oddsWhateverSeats() {
        for (int seats = 0; seats <= 3; seats++) {
            YearDeck x = Check.riding("u" + seats + ",12;r021000;r021000;r021000");
            odds("seats " + seats, x, 2, 11, 3, 4);
            odds("seats " + seats, x, 2, 13, 1, 4);
        }
    }

    private static void asManyAtLeast() {
        YearDeck x = Check.riding("u1,00000;l052000");
        int[] sets = {32, 31, 26, 16, 6, 1, 0};
        int[] lower = {1, 32, 16, 2, 16, 32, 1};
        int[] upper = {1, 31, 13, 1, 3, 1, 0};
        for (int k = 0; k <= 6; k++) {
            odds(sets[k] + " of 32 sets", x, 0, 20 + k, upper[k], lower[k]);
        }
    }

    private static void leastTerms() {
        YearDeck flat = Check.riding("u1,00000;r052000");
        odds("none of 32 is 0 to 1", flat, 0, 21, 0, 1);
        odds("all of 32 is 1 to 1", flat, 0, 20, 1, 1);
        for (int sections = 1; sections <= 5; sections++) {
            YearDeck x = Check.riding("u1," + "1".repeat(sections) + ";r0" + sections + "0000");
            odds("one of all by " + sections, x, 0, sections, 1, 1 << sections);
            odds("all but one by " + sections, x, 0, 1, (1 << sections) - 1, 1 << sections);
            YearDeck y = Check.riding("u1,1" + "0".repeat(sections - 1) + ";r0" + sections + "0000");
            odds("half of all by " + sections, y, 0, 1, 1, 2);
        }
    }
}
