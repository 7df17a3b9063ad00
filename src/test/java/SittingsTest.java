/** Promises 9 (age) and 10 (sit). */
final class SittingsTest {
    private static final Check check = new Check("SittingsTest");
    private static final int[] WHATS = {0, 1, 2, 3, 10, 11, 12, 13, 14, 20, 21, 22, 23};

    public static void main(String[] args) {
        ages();
        sittings();
        tooFewSeats();
        eldestIsTheLeastOfSeveral();
        refusals();
        refusalsOfCells();
        check.end();
    }

    private static void ages() {
        YearDeck x = Check.riding("u0,2130;r042023;l021821;e131920");
        check.due("none above", x.age(0, 0), 20);
        check.due("all above, whatever seats", x.age(0, 15), 26);
        check.due("a lad", x.age(1, 3), 23);
        check.due("an elder", x.age(2, 6), 22);
        check.due("a section ahead", x.age(2, 1), YearDeck.OUTSIDE);
        check.due("a section behind", x.age(1, 4), YearDeck.OUTSIDE);
        check.due("a section that is none", x.age(0, 16), YearDeck.OUTSIDE);
        check.due("all bits", x.age(0, -1), YearDeck.OUTSIDE);
        check.due("the topmost bit", x.age(0, Check.MIN), YearDeck.OUTSIDE);
        check.due("no rider", x.age(3, -1), YearDeck.UNKNOWN);
        check.due("rider -1", x.age(-1, 0), YearDeck.UNKNOWN);
        check.due("no ride", new YearDeck().age(0, 0), YearDeck.UNKNOWN);
    }

    private static void sittings() {
        // Riders get off with 20 + 2 + 3, 18 + 3 + 2 and 19 + 1.
        YearDeck x = Check.riding("u2,2130;r042025;l021822;e131920");
        Check.row(x, 0, Check.INTS, 5, 3, 2);
        int[] due = {2, YearDeck.NONE, 5, 0, 2, 2, 1, 0, YearDeck.NONE, 25, 23, 20, YearDeck.NONE};
        for (int k = 0; k < WHATS.length; k++) {
            check.due("sit, what " + WHATS[k], x.sit(0, 2, 0, 3, WHATS[k]), due[k]);
        }
        x.wish(1, 23);
        check.due("all are right", x.sit(0, 2, 0, 3, 0), 3);
        check.due("all are right, as a set", x.sit(0, 2, 0, 3, 2), 7);
        YearDeck full = Check.riding("u3,00000;r050000;l050000;e050000;r050000");
        Check.row(full, 0, Check.BYTES, 9, 16, 1, 31, 31, 9);
        check.due("the last section", full.sit(0, 0, 1, 4, 14), 3);
        check.due("the last rider", full.sit(0, 0, 1, 4, 23), 0);
        check.due("all but the lad, who gains without a slope", full.sit(0, 0, 1, 4, 2), 13);
    }

    private static void tooFewSeats() {
        YearDeck x = Check.riding("u1,2130;r042023;l021821;e131920");
        Check.row(x, 0, Check.SHORTS, 6, 0, 6, 8, 3, 2, 1, 1, 2);
        for (int what : WHATS) {
            check.due("first wrong 1, what " + what, x.sit(0, 1, 0, 3, what), what == 1 ? 1 : -101);
            check.due("first wrong 1 again, what " + what, x.sit(0, 1, 3, 3, what), what == 1 ? 1 : -101);
            check.due("first wrong 0, what " + what, x.sit(0, 1, 6, 3, what), what == 1 ? 0 : -100);
        }
        check.due("first wrong is no fault", x.fault(), 0);
        x.seat(2);
        check.due("seats enough", x.sit(0, 1, 0, 3, 1), YearDeck.NONE);
        x.seat(0);
        check.due("no seats", x.sit(0, 1, 3, 3, 1), 0);
        Check.row(x, 0, Check.SHORTS, 0, 0, 4);
        check.due("no seats for one", x.sit(0, 1, 0, 3, 0), -102);
        Check.row(x, 0, Check.SHORTS, 0, 0, 0);
        check.due("no one above", x.sit(0, 1, 0, 3, 1), YearDeck.NONE);
    }

    private static void eldestIsTheLeastOfSeveral() {
        YearDeck x = Check.riding("u3,1;r010100;r010500;r010400;r010500");
        Check.row(x, 0, Check.BYTES, 0, 0, 0, 0, 1, 0, 1, 0);
        check.due("of two the least", x.sit(0, 0, 0, 4, 3), 1);
        check.due("of three the least", x.sit(0, 0, 4, 4, 3), 1);
        check.due("above makes one the eldest", x.sit(0, 0, 3, 4, 3), 1);
        Check.row(x, 0, Check.BYTES, 0, 0, 0, 1);
        check.due("the last one", x.sit(0, 0, 0, 4, 3), 3);
        YearDeck all = Check.riding("u3,1;r010000;r010000");
        Check.row(all, 0, Check.BYTES, 0, 0);
        check.due("all of age 0", all.sit(0, 0, 0, 2, 3), 0);
    }

    private static void refusals() {
        YearDeck x = new YearDeck();
        check.due("no sheet", x.sit(4, 9, -1, -1, 9), YearDeck.UNKNOWN);
        check.due("sheet -1", x.sit(-1, 0, 0, 0, 0), YearDeck.UNKNOWN);
        check.due("no lane", x.sit(0, 3, -1, -1, 0), YearDeck.OUTSIDE);
        check.due("lane -1", x.sit(0, -1, -1, -1, 0), YearDeck.OUTSIDE);
        int[] noWhats = {-1, 4, 9, 15, 19, 24, Check.MIN, Check.MAX};
        for (int what : noWhats) {
            check.due("what " + what, x.sit(0, 0, -1, -1, what), YearDeck.OUTSIDE);
        }
        for (int what : WHATS) {
            check.due("no ride, what " + what, x.sit(0, 0, -1, -1, what), YearDeck.STATE);
        }
        x = Check.riding("u1,2130;r042023;l021821;e131920");
        check.due("nothing is no cast", x.sit(0, 0, -1, -1, 0), -11);
        check.due("fault NULL", x.fault(), 1);
        Check.row(x, 0, Check.INTS, 0, 0, 0, 0);
        check.due("cast comes ahead of size", x.sit(0, 0, -1, -1, 0), -12);
        check.due("fault CAST", x.fault(), 2);
        check.due("size comes ahead of index", x.sit(0, 2, -1, -1, 0), -14);
        check.due("fault SIZE", x.fault(), 4);
        check.due("index comes ahead of n", x.sit(0, 2, 5, 0, 0), -13);
        check.due("fault INDEX", x.fault(), 3);
        check.due("index of i", x.sit(0, 2, -1, 3, 0), -13);
        check.due("index of i and n", x.sit(0, 2, 2, 3, 0), -13);
        check.due("a sum that wraps", x.sit(0, 2, 1, Check.MAX, 0), -13);
        check.due("n is too few", x.sit(0, 2, 0, 2, 0), YearDeck.OUTSIDE);
        check.due("no fault when refused", x.fault(), 0);
        check.due("n is too many", x.sit(0, 2, 0, 4, 0), YearDeck.OUTSIDE);
        check.due("n is 0", x.sit(0, 2, 4, 0, 0), YearDeck.OUTSIDE);
        check.due("n is right", x.sit(0, 2, 1, 3, 0), 0);
    }

    private static void refusalsOfCells() {
        YearDeck x = Check.riding("u0,2130;r042023;l021821;e131920");
        Check.row(x, 0, Check.INTS, 16, 0, 0);
        check.due("a set of none", x.sit(0, 2, 0, 3, 1), YearDeck.OUTSIDE);
        Check.row(x, 0, Check.INTS, 15, 4, 0);
        check.due("a set of the first one's", x.sit(0, 2, 0, 3, 1), YearDeck.OUTSIDE);
        Check.row(x, 0, Check.INTS, 15, 3, 1);
        check.due("a set that begins too soon", x.sit(0, 2, 0, 3, 1), YearDeck.OUTSIDE);
        Check.row(x, 0, Check.INTS, 0, 0, -1);
        check.due("all bits", x.sit(0, 2, 0, 3, 1), YearDeck.OUTSIDE);
        Check.row(x, 0, Check.INTS, 0, 256, 0);
        check.due("as an int", x.sit(0, 2, 0, 3, 1), YearDeck.OUTSIDE);
        Check.row(x, 0, Check.BYTES, 0, 256, 0);
        check.due("cut to a byte", x.sit(0, 0, 0, 3, 1), YearDeck.NONE);
    }
}
