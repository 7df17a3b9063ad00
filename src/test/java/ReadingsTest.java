/** Promises 15 (reading) to 20 (odds). */
final class ReadingsTest {
    private static final Check check = new Check("ReadingsTest");

    public static void main(String[] args) {
        readings();
        backs();
        slopesByReadings();
        kindsByReadings();
        beganByReadings();
        askingChangesNothing();
        oddsOfYears();
        check.end();
    }

    private static void readings() {
        YearDeck x = Check.riding("u0,2130;r042023;l021821;e131920");
        check.due("no rider", x.reading(3, -1, 200), YearDeck.UNKNOWN);
        check.due("rider -1", x.reading(-1, 0, 0), YearDeck.UNKNOWN);
        check.due("a set of others", x.reading(1, 4, 0), YearDeck.OUTSIDE);
        check.due("all bits", x.reading(0, -1, 0), YearDeck.OUTSIDE);
        check.due("200 years", x.reading(0, 0, 200), YearDeck.OUTSIDE);
        check.due("-1 years", x.reading(0, 0, -1), YearDeck.OUTSIDE);
        check.due("none of these counts", x.many(3), 0);
        for (int k = 0; k < 8; k++) {
            check.due("reading " + k, x.reading(k % 3, 0, k == 0 ? 0 : 199), k);
            check.due("readings", x.many(3), k + 1);
        }
        check.due("full", x.reading(0, 0, 0), YearDeck.FULL);
        check.due("unknown comes ahead of full", x.reading(3, 0, 0), YearDeck.UNKNOWN);
        check.due("outside comes ahead of full", x.reading(0, 0, 200), YearDeck.OUTSIDE);
        check.due("still 8", x.many(3), 8);
    }

    private static void backs() {
        YearDeck x = Check.riding("u0,2130;r042023;l021821;e131920");
        x.reading(0, 0, 20);
        x.reading(0, 0, 21);
        x.reading(0, 0, 22);
        check.due("back 4", x.back(4), YearDeck.OUTSIDE);
        check.due("back -1", x.back(-1), YearDeck.OUTSIDE);
        check.due("back least", x.back(Check.MIN), YearDeck.OUTSIDE);
        check.due("back 0", x.back(0), 3);
        check.due("they can't all be", x.began(0, 0), 0);
        check.due("back 2", x.back(2), 1);
        check.due("the first is left", x.began(0, 1), 20);
        check.due("numbered by how many there are", x.reading(0, 1, 22), 1);
        check.due("back all", x.back(2), 0);
        check.due("none is left", x.began(0, 0), 80);
    }

    private static void slopesByReadings() {
        YearDeck x = Check.riding("u0,213;r031000;e030000");
        check.due("by none, any", x.slopes(1), 15);
        x.reading(1, 1, 1);
        check.due("an elder's 1 by slope 1 or 2", x.slopes(0), 6);
        check.due("another section is free", x.slopes(1), 15);
        x.reading(0, 3, 13);
        check.due("a rider's 3 by slopes 2 and 1", x.slopes(0), 4);
        check.due("the second one's", x.slopes(1), 2);
        x.tilt(0, 1);
        check.due("another slope of the first", x.slopes(1), 4);
        check.due("its own in place of what it is", x.slopes(0), 4);
        x.tilt(1, 0);
        check.due("none is so", x.slopes(0), 0);
        check.due("a section none sat above on", x.slopes(2), 0);
        check.due("no section 3", x.slopes(3), YearDeck.UNKNOWN);
        check.due("section -1", x.slopes(-1), YearDeck.UNKNOWN);
        check.due("no ride", new YearDeck().slopes(0), YearDeck.UNKNOWN);
    }

    private static void kindsByReadings() {
        YearDeck x = Check.riding("u0,213;r031000;e030000;l030000");
        check.due("by none, any", x.kinds(0), 7);
        x.reading(0, 2, 11);
        check.due("1 on slope 1 is a rider's or an elder's", x.kinds(0), 5);
        check.due("others are free", x.kinds(1), 7);
        x.reading(0, 1, 12);
        check.due("2 on slope 2 is a rider's", x.kinds(0), 1);
        x.reading(2, 4, 4);
        check.due("4 on slope 3 is a lad's", x.kinds(2), 2);
        x.reading(2, 4, 3);
        check.due("none is both", x.kinds(2), 0);
        check.due("so for all", x.kinds(1), 0);
        check.due("no rider", x.kinds(3), YearDeck.UNKNOWN);
        check.due("rider -1", x.kinds(-1), YearDeck.UNKNOWN);
    }

    private static void beganByReadings() {
        YearDeck x = Check.riding("u0,213;r031000;l037900");
        check.due("by none: how many", x.began(0, 0), 80);
        check.due("by none: the least", x.began(0, 1), 0);
        x.reading(0, 7, 76);
        check.due("of 70: how many", x.began(0, 0), 1);
        check.due("of 70: the least", x.began(0, 1), 70);
        check.due("the other's, but the first is not so", x.began(1, 0), 0);
        check.due("the other's least", x.began(1, 1), YearDeck.NONE);
        x.back(1);
        x.reading(1, 7, 88);
        check.due("of 79", x.began(1, 1), 79);
        x.back(1);
        x.reading(1, 7, 89);
        check.due("of 80 is too old", x.began(1, 0), 0);
        x.back(1);
        x.reading(1, 1, 2);
        check.due("below 0 is too young", x.began(1, 1), YearDeck.NONE);
        x.back(1);
        x.reading(1, 1, 3);
        check.due("of 0", x.began(1, 1), 0);
        check.due("of 0: how many", x.began(1, 0), 1);
        check.due("what 2", x.began(1, 2), YearDeck.OUTSIDE);
        check.due("what -1", x.began(1, -1), YearDeck.OUTSIDE);
        check.due("no rider", x.began(2, 2), YearDeck.UNKNOWN);
        check.due("rider -1", x.began(-1, 0), YearDeck.UNKNOWN);
    }

    private static void askingChangesNothing() {
        YearDeck x = Check.riding("u0,213;r031000;l037901");
        x.reading(0, 1, 12);
        x.slopes(0);
        x.slopes(1);
        x.kinds(0);
        x.kinds(1);
        x.began(0, 0);
        x.began(1, 1);
        check.due("slopes", x.slope(0) * 100 + x.slope(1) * 10 + x.slope(2), 213);
        check.due("kinds", x.ofRider(0, 0) * 10 + x.ofRider(1, 0), 1);
        check.due("ages", x.ofRider(0, 3) * 100 + x.ofRider(1, 3), 1079);
        check.due("readings", x.many(3), 1);
    }

    private static void oddsOfYears() {
        YearDeck x = Check.riding("u0,2130;r042023;l021821;e131920");
        share(x, 0, 0, 1, 1);
        share(x, 0, 20, 1, 1);
        share(x, 0, 21, 7, 8);
        share(x, 0, 22, 3, 4);
        share(x, 0, 23, 5, 8);
        share(x, 0, 26, 1, 8);
        share(x, 0, 27, 0, 1);
        share(x, 0, 199, 0, 1);
        share(x, 1, 19, 3, 4);
        share(x, 1, 21, 1, 2);
        share(x, 1, 22, 1, 4);
        share(x, 2, 20, 3, 4);
        x.seat(3);
        share(x, 0, 21, 7, 8);
        check.due("200 years", x.odds(0, 200, 0), YearDeck.LOST);
        check.due("-1 years", x.odds(0, -1, 0), YearDeck.LOST);
        check.due("which 2", x.odds(0, 20, 2), YearDeck.LOST);
        check.due("which -1", x.odds(0, 20, -1), YearDeck.LOST);
        check.due("no rider", x.odds(3, 20, 0), YearDeck.LOST);
        check.due("rider -1", x.odds(-1, 20, 0), YearDeck.LOST);
        YearDeck y = Check.riding("u0,12301;l050000");
        share(y, 0, 12, 1, 32);
        share(y, 0, 11, 1, 16);
        share(y, 0, 0, 1, 1);
        share(y, 0, 13, 0, 1);
    }

    private static void share(YearDeck x, int a, int v, int upper, int lower) {
        check.due("odds " + a + " " + v + ": upper", x.odds(a, v, 0), upper);
        check.due("odds " + a + " " + v + ": lower", x.odds(a, v, 1), lower);
    }
}
