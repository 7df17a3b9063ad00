/** Promises 3 (ofRider) to 8 (gain), and 31 (many). */
final class RidersTest {
    private static final Check check = new Check("RidersTest");
    private static final int[] FAR = {-1, Check.MIN, Check.MAX, 32, 64, -32};

    public static void main(String[] args) {
        riders();
        slopesOfSections();
        tilts();
        seats();
        wishes();
        gains();
        howMany();
        check.end();
    }

    private static void riders() {
        YearDeck x = Check.riding("u1,21302;r050099;l137900;e450510");
        int[][] due = {{0, 0, 5, 0, 99, 31}, {1, 1, 3, 79, 0, 6}, {2, 4, 5, 5, 10, 16}};
        for (int a = 0; a < due.length; a++) {
            for (int what = 0; what < 6; what++) {
                check.due("ofRider " + a + " " + what, x.ofRider(a, what), due[a][what]);
            }
            check.due("ofRider, what 6", x.ofRider(a, 6), YearDeck.OUTSIDE);
            check.due("ofRider, what -1", x.ofRider(a, -1), YearDeck.OUTSIDE);
            check.due("ofRider, what least", x.ofRider(a, Check.MIN), YearDeck.OUTSIDE);
        }
        check.due("no rider 3", x.ofRider(3, 0), YearDeck.UNKNOWN);
        for (int a : FAR) {
            check.due("no rider, and no such what", x.ofRider(a, 6), YearDeck.UNKNOWN);
        }
    }

    private static void slopesOfSections() {
        YearDeck x = Check.riding("u1,213;r010099");
        check.due("slope 0", x.slope(0), 2);
        check.due("slope 1", x.slope(1), 1);
        check.due("slope 2", x.slope(2), 3);
        check.due("slope 3", x.slope(3), YearDeck.UNKNOWN);
        for (int s : FAR) {
            check.due("slope of none", x.slope(s), YearDeck.UNKNOWN);
        }
    }

    private static void tilts() {
        YearDeck x = Check.riding("u1,213;r030010");
        check.due("tilt", x.tilt(1, 3), 1);
        check.due("tilted", x.slope(1), 3);
        check.due("tilt again", x.tilt(1, 0), 3);
        check.due("tilt by 4", x.tilt(1, 4), YearDeck.OUTSIDE);
        check.due("tilt by -1", x.tilt(1, -1), YearDeck.OUTSIDE);
        check.due("tilt of none", x.tilt(3, 4), YearDeck.UNKNOWN);
        check.due("tilt of -1", x.tilt(-1, 0), YearDeck.UNKNOWN);
        check.due("refused changes nothing", x.slope(1), 0);
        check.due("others stay", x.slope(0) * 10 + x.slope(2), 23);
        check.due("one gets off by it", x.age(0, 7), 5);
        check.due("without a ride", new YearDeck().tilt(0, 0), YearDeck.UNKNOWN);
    }

    private static void seats() {
        YearDeck x = Check.riding("u1,213;r030010");
        check.due("seat", x.seat(3), 1);
        check.due("seats", x.many(2), 3);
        check.due("seat again", x.seat(0), 3);
        check.due("seat 4", x.seat(4), YearDeck.OUTSIDE);
        check.due("seat -1", x.seat(-1), YearDeck.OUTSIDE);
        check.due("refused changes nothing", x.many(2), 0);
        YearDeck y = new YearDeck();
        check.due("outside comes ahead of state", y.seat(4), YearDeck.OUTSIDE);
        check.due("no ride", y.seat(3), YearDeck.STATE);
        check.due("no seats without a ride", y.many(2), 0);
    }

    private static void wishes() {
        YearDeck x = Check.riding("u1,213;r030010;r030020");
        check.due("wish", x.wish(1, 99), 20);
        check.due("wished", x.ofRider(1, 4), 99);
        check.due("wish again", x.wish(1, 0), 99);
        check.due("wish 100", x.wish(1, 100), YearDeck.OUTSIDE);
        check.due("wish -1", x.wish(1, -1), YearDeck.OUTSIDE);
        check.due("wish of none", x.wish(2, 100), YearDeck.UNKNOWN);
        check.due("wish of -1", x.wish(-1, 1), YearDeck.UNKNOWN);
        check.due("refused changes nothing", x.ofRider(1, 4), 0);
        check.due("the other stays", x.ofRider(0, 4), 10);
        check.due("without a ride", new YearDeck().wish(0, 0), YearDeck.UNKNOWN);
    }

    private static void gains() {
        YearDeck x = Check.riding("u0,0123;r010000;l120000;e230000");
        int[][] due = {{0, 1, 2, 3}, {1, 2, 3, 4}, {0, 1, 1, 2}};
        for (int a = 0; a < 3; a++) {
            for (int s = 0; s < 4; s++) {
                check.due("gain " + a + " " + s, x.gain(a, s), due[a][s]);
            }
            check.due("gain of no section", x.gain(a, 4), YearDeck.UNKNOWN);
            check.due("gain of section -1", x.gain(a, -1), YearDeck.UNKNOWN);
        }
        check.due("gain of no rider", x.gain(3, 0), YearDeck.UNKNOWN);
        check.due("gain of rider -1", x.gain(-1, 0), YearDeck.UNKNOWN);
        check.due("gain of none of both", x.gain(Check.MAX, Check.MIN), YearDeck.UNKNOWN);
        x.tilt(0, 3);
        check.due("gain of an elder by a tilt", x.gain(2, 0), 2);
    }

    private static void howMany() {
        YearDeck x = Check.riding("u2,213;r030010;l030010;e030010;e030010");
        x.reading(0, 0, 0);
        check.due("riders", x.many(0), 4);
        check.due("sections", x.many(1), 3);
        check.due("seats", x.many(2), 2);
        check.due("readings", x.many(3), 1);
        check.due("what 4", x.many(4), YearDeck.OUTSIDE);
        for (int what : FAR) {
            check.due("what far", x.many(what), YearDeck.OUTSIDE);
        }
    }
}
