/** Boundaries of the promises 11 (way) to 14 (most). */
final class WhereBounds {
    private static Bounds b;

    static void all(Bounds bounds) {
        b = bounds;
        b.of(11, "WAY to v years (0 .. 199), as a set", WhereBounds::years);
        b.of(11, "NONE", WhereBounds::noWay);
        b.of(11, "UNKNOWN", WhereBounds::wayOfNone);
        b.of(11, "OUTSIDE", WhereBounds::wayBeyond);
        b.of(11, "(But for AGREE and MOST one sits above as if alone, though only if there are SEATS.)",
            WhereBounds::wayOnlyWithSeats);
        b.of(11, "the set of the fewest SECTIONS by which one gets OFF with just as many: of several the least; NONE",
            WhereBounds::fewestThenLeast);

        b.of(12, "SPREAD", WhereBounds::spreads);
        b.of(12, "UNKNOWN", WhereBounds::spreadOfNone);
        b.of(12, "how many unlike ages one may get OFF with", WhereBounds::unlikeAges);
        b.of(12, "though only if there are SEATS", WhereBounds::spreadOnlyWithSeats);

        b.of(13, "AGREE: how many SECTIONS together (what 0), the set of a (1), that of b (2)", WhereBounds::agreements);
        b.of(13, "NONE", WhereBounds::noAgreement);
        b.of(13, "UNKNOWN: RIDERS", WhereBounds::agreeOfNone);
        b.of(13, "one with oneself", WhereBounds::agreeWithOneself);
        b.of(13, "OUTSIDE", WhereBounds::agreeBeyond);
        b.of(13, "there are SEATS for both", WhereBounds::seatsForBoth);
        b.of(13, "of the fewest SECTIONS together: of several the least set of the first, then of the other one",
            WhereBounds::fewestTogether);
        b.of(13, "NONE: there are none", WhereBounds::noAgreementAtAll);

        b.of(14, "MOST, as a set", WhereBounds::noneAndAll);
        b.of(14, "STATE: there is no RIDE", WhereBounds::mostWithoutARide);
        b.of(14, "the most RIDERS who can be RIGHT all at once, the others sitting below", WhereBounds::allAtOnce);
        b.of(14, "with the SEATS that there are: of several the least", WhereBounds::leastOfSeveral);
    }

    // ---- 11 way

    private static void years() {
        YearDeck x = Check.riding("u1,33333;l057999;r010000");
        b.due("as old as one may get", x.way(0, 99), 31);
        b.due("one more", x.way(0, 100), Bounds.NONE);
        b.due("199 years", x.way(0, 199), Bounds.NONE);
        b.due("0 years of age 0", x.way(1, 0), 0);
        b.due("0 years of age 79", x.way(0, 0), Bounds.NONE);
        b.due("as old as one got on", x.way(0, 79), 0);
    }

    private static void noWay() {
        YearDeck x = Check.riding("u3,1313;e142000");
        int[] due = {0, 4, 2, 6, 10, 14};
        for (int v = 0; v <= 199; v++) {
            b.due("way to " + v, x.way(0, v), v < 20 || v > 25 ? Bounds.NONE : due[v - 20]);
        }
    }

    private static void wayOfNone() {
        for (int a : Bounds.beyond(2)) {
            b.refused("way of " + a, x -> x.way(a, 20), Bounds.UNKNOWN);
        }
        b.refused("way of 4", RideBounds::fourRiders, x -> x.way(4, 20), Bounds.UNKNOWN);
        b.refused("way without a ride", Bounds::noRide, x -> x.way(0, 0), Bounds.UNKNOWN);
    }

    private static void wayBeyond() {
        for (int v : Bounds.beyond(199)) {
            b.refused("way to " + v, x -> x.way(0, v), Bounds.OUTSIDE);
        }
    }

    private static void wayOnlyWithSeats() {
        for (int seats = 0; seats <= 3; seats++) {
            YearDeck x = Check.riding("u" + seats + ",012;r031000;r031000;r031000;r031000");
            b.due("below, seats " + seats, x.way(3, 10), 0);
            b.due("above on one, seats " + seats, x.way(3, 11), seats == 0 ? Bounds.NONE : 2);
            b.due("above on two, seats " + seats, x.way(3, 13), seats == 0 ? Bounds.NONE : 6);
        }
    }

    private static void fewestThenLeast() {
        YearDeck x = Check.riding("u1,11233;r050000;r250000");
        int[] due = {0, 1, 4, 8, 9, 12, 24, 25, 28, 29, 31};
        for (int v = 0; v <= 10; v++) {
            b.due("way to " + v, x.way(0, v), due[v]);
        }
        b.due("3 by theirs alone", x.way(1, 3), 8);
        b.due("1 is of others' sections", x.way(1, 1), Bounds.NONE);
        b.due("none gets so old", x.way(0, 11), Bounds.NONE);
        YearDeck flat = Check.riding("u1,00000;r050700");
        b.due("by none, though by any", flat.way(0, 7), 0);
        b.due("one year more by none", flat.way(0, 8), Bounds.NONE);
    }

    // ---- 12 spread

    private static void spreads() {
        b.due("one age, one section", Check.riding("u1,0;r010000").spread(0), 1);
        b.due("two ages, one section", Check.riding("u1,1;r010000").spread(0), 2);
        b.due("sixteen ages, by 1, 2, 4, 4, 4", Check.riding("u1,01333;l057900").spread(0), 16);
        b.due("all steepest, of a lad", Check.riding("u3,33333;l057900").spread(0), 6);
    }

    private static void spreadOfNone() {
        for (int a : Bounds.beyond(2)) {
            b.refused("spread of " + a, x -> x.spread(a), Bounds.UNKNOWN);
        }
        b.refused("spread of 4", RideBounds::fourRiders, x -> x.spread(4), Bounds.UNKNOWN);
        b.refused("spread without a ride", Bounds::noRide, x -> x.spread(0), Bounds.UNKNOWN);
    }

    private static void unlikeAges() {
        YearDeck x = Check.riding("u1,12301;r050000;l050000;e050000;r340000");
        b.due("by 1, 2, 3, 0, 1", x.spread(0), 8);
        b.due("by 2, 3, 4, 1, 2", x.spread(1), 13);
        b.due("by 1, 1, 2, 0, 1", x.spread(2), 6);
        b.due("by 0 alone", x.spread(3), 1);
    }

    private static void spreadOnlyWithSeats() {
        for (int seats = 0; seats <= 3; seats++) {
            YearDeck x = Check.riding("u" + seats + ",12;r020000;r020000;r020000;r020000");
            b.due("seats " + seats, x.spread(3), seats == 0 ? 1 : 4);
        }
    }

    // ---- 13 agree

    private static void pair(String call, YearDeck x, int a, int other, int... due) {
        for (int what = 0; what <= 2; what++) {
            b.due(call + ": agree(" + a + ", " + other + ", " + what + ")", x.agree(a, other, what), due[what]);
        }
    }

    private static void none(String call, YearDeck x, int a, int other) {
        pair(call, x, a, other, Bounds.NONE, Bounds.NONE, Bounds.NONE);
    }

    private static void agreements() {
        pair("alike already", Check.riding("u0,3;r010500;e010500"), 0, 1, 0, 0, 0);
        YearDeck x = Check.riding("u1,33333;l050000;r052000");
        pair("by all of the first", x, 0, 1, 5, 31, 0);
        pair("by all of the other", x, 1, 0, 5, 0, 31);
        YearDeck all = Check.riding("u2,333;l030000;r030300");
        pair("by all of both", all, 0, 1, 6, 7, 7);
        pair("by all of both, turned", all, 1, 0, 6, 7, 7);
        YearDeck most = Check.riding("u2,33333;l050000;r051100");
        pair("eight together, more are never needed", most, 0, 1, 8, 31, 7);
        pair("eight together, turned", most, 1, 0, 8, 7, 31);
    }

    private static void noAgreement() {
        YearDeck x = Check.riding("u2,33333;l050000;l052100;r052000");
        none("one year too far", x, 0, 1);
        none("one year too far, turned", x, 1, 0);
        pair("just within", x, 0, 2, 5, 31, 0);
    }

    private static void agreeOfNone() {
        for (int a : Bounds.beyond(2)) {
            b.refused("agree of " + a, x -> x.agree(a, 0, 0), Bounds.UNKNOWN);
            b.refused("agree with " + a, x -> x.agree(0, a, 0), Bounds.UNKNOWN);
            b.refused("agree of two that are not", x -> x.agree(a, a, 0), Bounds.UNKNOWN);
        }
        b.refused("agree of 4", RideBounds::fourRiders, x -> x.agree(4, 0, 0), Bounds.UNKNOWN);
        b.refused("agree with 4", RideBounds::fourRiders, x -> x.agree(0, 4, 0), Bounds.UNKNOWN);
        b.refused("agree of one alone", () -> Check.riding("u1,1;r010000"), x -> x.agree(0, 1, 0), Bounds.UNKNOWN);
        b.refused("agree without a ride", Bounds::noRide, x -> x.agree(0, 1, 0), Bounds.UNKNOWN);
    }

    private static void agreeWithOneself() {
        for (int a = 0; a < 4; a++) {
            int rider = a;
            for (int what = 0; what <= 2; what++) {
                int asked = what;
                b.refused("agree of " + a + " with oneself", RideBounds::fourRiders, x -> x.agree(rider, rider, asked),
                    Bounds.UNKNOWN);
            }
        }
        b.due("alike, but two", Check.riding("u1,1;r010000;r010000").agree(0, 1, 0), 0);
    }

    private static void agreeBeyond() {
        for (int what : Bounds.beyond(2)) {
            b.refused("agree, what " + what, x -> x.agree(0, 1, what), Bounds.OUTSIDE);
        }
    }

    private static void seatsForBoth() {
        for (int seats = 0; seats <= 3; seats++) {
            YearDeck x = Check.riding("u" + seats + ",2;r010100;l010000");
            if (seats >= 2) {
                pair("both on one, seats " + seats, x, 0, 1, 2, 1, 1);
            } else {
                none("both on one, seats " + seats, x, 0, 1);
            }
            YearDeck y = Check.riding("u" + seats + ",22;r010100;l120000");
            if (seats >= 1) {
                pair("each on another, seats " + seats, y, 0, 1, 2, 1, 2);
            } else {
                none("each on another, seats " + seats, y, 0, 1);
            }
            YearDeck z = Check.riding("u" + seats + ",1;r010000;r010100");
            if (seats >= 1) {
                pair("one above, seats " + seats, z, 0, 1, 1, 1, 0);
            } else {
                none("one above, seats " + seats, z, 0, 1);
            }
        }
    }

    private static void fewestTogether() {
        YearDeck x = Check.riding("u2,11233;r050000;r050300");
        pair("one section rather than two or three", x, 0, 1, 1, 8, 0);
        pair("turned", x, 1, 0, 1, 0, 8);
        YearDeck y = Check.riding("u2,2323;r040000;r040100");
        pair("the least set of the first, then of the other", y, 0, 1, 2, 2, 1);
        pair("turned: the least of the one who is first now", y, 1, 0, 2, 1, 2);
        YearDeck z = Check.riding("u1,22;r020000;r020200");
        pair("of two sections the first", z, 0, 1, 1, 1, 0);
    }

    private static void noAgreementAtAll() {
        none("no seats and unlike", Check.riding("u0,3;r010000;r010300"), 0, 1);
        none("no slope and unlike", Check.riding("u3,00000;r050000;r050100"), 0, 1);
        none("even against odd", Check.riding("u3,22222;r050000;r050100"), 0, 1);
        none("the eldest and the youngest", Check.riding("u3,33333;l050000;r057900"), 0, 1);
    }

    // ---- 14 most

    private static void noneAndAll() {
        b.due("none", Check.riding("u3,1;r010099;r010099;r010099;r010099").most(), 0);
        b.due("one alone", Check.riding("u3,1;r010001").most(), 1);
        b.due("the last alone", Check.riding("u3,1;r010099;r010099;r010099;r010001").most(), 8);
        b.due("all, below", Check.riding("u0,1;r010000;r010101;r010202;r017979").most(), 15);
        b.due("all, above", Check.riding("u2,11;r020001;r020001;r020001;r020001").most(), 15);
        b.due("as old as one may get", Check.riding("u1,33333;l057999").most(), 1);
    }

    private static void mostWithoutARide() {
        b.refused("most", Bounds::noRide, YearDeck::most, Bounds.STATE);
        YearDeck x = Bounds.noRide();
        x.ride(0, 0, 0, 3);
        b.due("most behind a text that was not taken", x.most(), Bounds.STATE);
    }

    private static void allAtOnce() {
        for (int seats = 0; seats <= 3; seats++) {
            YearDeck x = Check.riding("u" + seats + ",1;r010001;r010001;r010001;r010001");
            b.due("as many as seats, " + seats, x.most(), (1 << seats) - 1);
        }
        YearDeck x = Check.riding("u1,111;r030003;r010001;r120001;r230001");
        b.due("three, each on a section, rather than one on all", x.most(), 14);
        YearDeck y = Check.riding("u1,11;r020001;r020001;r020001");
        b.due("one of three has no seat", y.most(), 3);
        YearDeck z = Check.riding("u1,12;r020102;r020103;r020101");
        b.due("two above on unlike sections, one below", z.most(), 7);
    }

    private static void leastOfSeveral() {
        YearDeck x = Check.riding("u1,1;r010099;r010001;r010001;r010001");
        b.due("of three alike the first", x.most(), 2);
        YearDeck y = Check.riding("u2,1;r010001;r010001;r010001;r010001");
        b.due("of six pairs the least", y.most(), 3);
        y.wish(0, 0);
        b.due("one below and of three pairs the least", y.most(), 7);
        y.wish(1, 77);
        b.due("one can't: the others", y.most(), 13);
        y.seat(0);
        b.due("no seats", y.most(), 1);
    }
}
