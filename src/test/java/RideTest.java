/** Promises 1 (a new object) and 2 (ride). */
final class RideTest {
    private static final Check check = new Check("RideTest");
    private static final String SMALL = "u1,2;r012030";

    public static void main(String[] args) {
        newObject();
        taken();
        firstFaults();
        firstFaultsOfRiders();
        endsTooSoon();
        refusals();
        faultIsNoneBehindAFirstFault();
        notTakenChangesNothing();
        takenMakesAllAnew();
        cellsOfLanes();
        check.end();
    }

    private static void newObject() {
        YearDeck x = new YearDeck();
        for (int what = 0; what <= 3; what++) {
            check.due("new: many " + what, x.many(what), 0);
        }
        check.due("new: ofRider", x.ofRider(0, 0), YearDeck.UNKNOWN);
        check.due("new: slope", x.slope(0), YearDeck.UNKNOWN);
        check.due("new: most", x.most(), YearDeck.STATE);
        check.due("new: seat", x.seat(0), YearDeck.STATE);
        check.due("new: back(0)", x.back(0), 0);
        check.due("new: back(1)", x.back(1), YearDeck.OUTSIDE);
        check.due("new: trace", x.trace(), 0);
        check.due("new: fault", x.fault(), 0);
        for (int k = 0; k < 4; k++) {
            check.due("new: lose " + k, x.lose(k), 0);
        }
        YearDeck y = new YearDeck();
        Check.rideOf(y, SMALL);
        check.due("an object of its own", x.many(0), 0);
    }

    private static void taken() {
        wants("u0,0;r010000", 1);
        wants("u3,33333;e057999;l051000;r230101;r450000", 4);
        wants("u1,2130;r042023;l021821;e131920", 3);
        wants("u2,01;r010000;r120000", 2);
    }

    private static void firstFaults() {
        wants("", -100);
        wants("U1,2;r012030", -100);
        wants("u4,2;r012030", -101);
        wants("u/,2;r012030", -101);
        wants("u1;2;r012030", -102);
        wants("u1,4;r012030", -103);
        wants("u1,;r012030", -103);
        wants("u1,2/r012030", -104);
        wants("u1,24;r012030", -104);
        wants("u1,2,r012030", -104);
        wants("u1,01230;r012030", 1);
        wants("u1,012301;r012030", -108);
        wants("u1,01230,r012030", -108);
        wants("v9,9", -100);
    }

    private static void firstFaultsOfRiders() {
        wants("u1,22;R012030", -106);
        wants("u1,22;m012030", -106);
        wants("u1,22;r/12030", -107);
        wants("u1,22;r212030", -107);
        wants("u1,22;r222030", -107);
        wants("u1,22;r122030", 1);
        wants("u1,22;r022030", 1);
        wants("u1,22;r002030", -108);
        wants("u1,22;r112030", -108);
        wants("u1,22;r032030", -108);
        wants("u1,22;r0:2030", -108);
        wants("u1,22;r018030", -109);
        wants("u1,22;r01/030", -109);
        wants("u1,22;r017930", 1);
        wants("u1,22;r017:30", -110);
        wants("u1,22;r017/30", -110);
        wants("u1,22;r0179:0", -111);
        wants("u1,22;r017999", 1);
        wants("u1,22;r01799:", -112);
        wants("u1,22;r017999r", -113);
        wants("u1,22;r0179990", -113);
        wants("u1,22;r017999;x", -114);
        wants("u1,2;r010000;r010000;r010000;r010000", 4);
        wants("u1,2;r010000;r010000;r010000;r010000;", -136);
        wants("u1,2;r010000;r010000;r010000;r010000;r010000", -136);
        wants("u1,2;r010000;r010000;r010000;r020000", -131);
    }

    private static void endsTooSoon() {
        String text = "u3,0123;l040199;e237900";
        for (int n = 0; n < text.length(); n++) {
            int due = n == 15 ? 1 : -100 - n;
            wants(text.substring(0, n), due);
        }
        wants(text, 2);
    }

    private static void refusals() {
        YearDeck x = new YearDeck();
        int[] noSheets = {-1, 4, Check.MIN, Check.MAX};
        for (int sheet : noSheets) {
            check.due("ride of no sheet", x.ride(sheet, 9, -1, -1), YearDeck.UNKNOWN);
        }
        int[] noLanes = {-1, 3, Check.MIN, Check.MAX};
        for (int lane : noLanes) {
            check.due("ride of no lane", x.ride(0, lane, -1, -1), YearDeck.OUTSIDE);
        }
        check.due("nothing is no cast", x.ride(0, 2, -1, -1), -11);
        check.due("fault NULL", x.fault(), 1);
        Check.write(x, 0, Check.SHORTS, SMALL);
        check.due("cast comes ahead of size", x.ride(0, 0, -1, -1), -12);
        check.due("fault CAST", x.fault(), 2);
        check.due("size comes ahead of index", x.ride(0, 1, -1, -1), -14);
        check.due("fault SIZE", x.fault(), 4);
        check.due("size, whatever", x.ride(0, 1, 0, Check.MIN), -14);
        check.due("i below 0", x.ride(0, 1, -1, 1), -13);
        check.due("fault INDEX", x.fault(), 3);
        check.due("i below 0, none taken", x.ride(0, 1, -1, 0), -13);
        check.due("i beyond, none taken", x.ride(0, 1, 13, 0), -13);
        check.due("i at the end, none taken", x.ride(0, 1, 12, 0), -100);
        check.due("one too many", x.ride(0, 1, 0, 13), -13);
        check.due("one too many behind", x.ride(0, 1, 1, 12), -13);
        check.due("a sum that wraps", x.ride(0, 1, 1, Check.MAX), -13);
        check.due("a sum that wraps, too", x.ride(0, 1, Check.MAX, Check.MAX), -13);
        check.due("refused clears the fault", x.ride(4, 1, 0, 1), YearDeck.UNKNOWN);
        check.due("no fault when refused", x.fault(), 0);
        check.due("none of that made a ride", x.many(0), 0);
        check.due("all of it", x.ride(0, 1, 0, 12), 1);
    }

    private static void faultIsNoneBehindAFirstFault() {
        YearDeck x = new YearDeck();
        Check.write(x, 0, Check.BYTES, "u1x");
        x.ride(0, 0, -1, 0);
        check.due("a fault first", x.fault(), 3);
        check.due("a wrong text", x.ride(0, 0, 0, 3), -102);
        check.due("a wrong text is no fault", x.fault(), 0);
    }

    private static void notTakenChangesNothing() {
        YearDeck x = Check.riding("u2,31;e011155;l122266");
        x.reading(0, 1, 13);
        check.due("wrong at its end", Check.rideOf(x, "u0,000;r01000x"), -113);
        check.due("seats stay", x.many(2), 2);
        check.due("sections stay", x.many(1), 2);
        check.due("riders stay", x.many(0), 2);
        check.due("readings stay", x.many(3), 1);
        check.due("slope stays", x.slope(0), 3);
        check.due("kind stays", x.ofRider(0, 0), 2);
        check.due("age stays", x.ofRider(1, 3), 22);
    }

    private static void takenMakesAllAnew() {
        YearDeck x = Check.riding("u2,31332;e011155;l122266;l122266;l122266");
        x.reading(0, 1, 13);
        x.reading(1, 0, 13);
        x.tell(0);
        int trace = x.trace();
        check.due("another one", Check.rideOf(x, "u1,02;r020304"), 1);
        check.due("its seats", x.many(2), 1);
        check.due("its sections", x.many(1), 2);
        check.due("its riders", x.many(0), 1);
        check.due("no readings", x.many(3), 0);
        check.due("its slope", x.slope(0), 0);
        check.due("no third section", x.slope(2), YearDeck.UNKNOWN);
        check.due("no second rider", x.ofRider(1, 0), YearDeck.UNKNOWN);
        check.due("began by no readings", x.began(0, 0), 80);
        check.due("trace is the object's, not the ride's", x.trace(), trace);
        check.due("sheets are the object's, too", x.cell(3, 0, 0), 'u');
    }

    private static void cellsOfLanes() {
        for (int lane = 0; lane < 3; lane++) {
            YearDeck x = new YearDeck();
            String text = "??" + SMALL + "??";
            Check.write(x, 2, lane, text);
            check.due("from the midst, lane " + lane, x.ride(2, lane, 2, SMALL.length()), 1);
            check.due("with what is behind", x.ride(2, lane, 2, SMALL.length() + 1), -112);
            check.due("from ahead", x.ride(2, lane, 1, SMALL.length()), -100);
            x.put(2, 2, 'u' + 256);
            check.due("cut to its lane " + lane, x.ride(2, lane, 2, SMALL.length()), lane == 0 ? 1 : -100);
            x.put(2, 2, 'u' + 65536);
            check.due("cut to lane " + lane, x.ride(2, lane, 2, SMALL.length()), lane == 2 ? -100 : 1);
        }
    }

    private static void wants(String text, int due) {
        check.due("ride by " + text, Check.rideOf(new YearDeck(), text), due);
    }
}
