/** Promises 11 (way) to 14 (most). */
final class WhereToSitTest {
    private static final Check check = new Check("WhereToSitTest");

    public static void main(String[] args) {
        ways();
        waysOfSeveral();
        spreads();
        agreements();
        agreementsOfSeveral();
        agreementsBySeats();
        mosts();
        mostsOfSeveral();
        check.end();
    }

    private static void ways() {
        YearDeck x = Check.riding("u1,2130;r042023;l021821;e131920");
        check.due("by none", x.way(0, 20), 0);
        check.due("by one", x.way(0, 23), 4);
        check.due("by all but one without a slope", x.way(0, 26), 7);
        check.due("too old", x.way(0, 27), YearDeck.NONE);
        check.due("too young", x.way(0, 19), YearDeck.NONE);
        check.due("a lad in between", x.way(1, 19), YearDeck.NONE);
        check.due("199", x.way(0, 199), YearDeck.NONE);
        check.due("0", x.way(0, 0), YearDeck.NONE);
        check.due("200", x.way(0, 200), YearDeck.OUTSIDE);
        check.due("-1", x.way(0, -1), YearDeck.OUTSIDE);
        check.due("no rider", x.way(3, 200), YearDeck.UNKNOWN);
        check.due("rider -1", x.way(-1, 0), YearDeck.UNKNOWN);
        x.seat(0);
        check.due("no seats, by none", x.way(0, 20), 0);
        check.due("no seats, by one", x.way(0, 23), YearDeck.NONE);
    }

    private static void waysOfSeveral() {
        // 3 is 1 + 2 by the two first, or 3 by the last alone; 4 is 1 + 3 or 2 + 2.
        YearDeck x = Check.riding("u1,12320;r050000;r150000");
        check.due("the fewest, though no least set", x.way(0, 3), 4);
        check.due("of two the least set", x.way(0, 2), 2);
        check.due("of three the least set", x.way(0, 5), 6);
        check.due("4 by 1 and 3", x.way(0, 4), 5);
        check.due("only their own", x.way(1, 4), 10);
        check.due("all with a slope", x.way(0, 8), 15);
        YearDeck all = Check.riding("u1,00000;l050000");
        check.due("all of theirs", all.way(0, 5), 31);
    }

    private static void spreads() {
        YearDeck x = Check.riding("u1,00000;r050000;l050000;e050000;l340000");
        check.due("no slope", x.spread(0), 1);
        check.due("a lad gains on each", x.spread(1), 6);
        check.due("an elder gains none", x.spread(2), 1);
        check.due("one section", x.spread(3), 2);
        check.due("no rider", x.spread(4), YearDeck.UNKNOWN);
        check.due("rider -1", x.spread(-1), YearDeck.UNKNOWN);
        for (int s = 0; s < 5; s++) {
            x.tilt(s, 3);
        }
        check.due("equal slopes", x.spread(1), 6);
        x.tilt(0, 0);
        x.tilt(1, 1);
        check.due("a lad by 1, 2, 4, 4, 4", x.spread(1), 16);
        x.seat(0);
        check.due("no seats", x.spread(1), 1);
        x.seat(3);
        check.due("seats again", x.spread(1), 16);
    }

    private static void agreements() {
        YearDeck x = Check.riding("u1,2130;r042023;l021821;e131920");
        pair(x, 0, 1, 1, 0, 2);
        pair(x, 1, 0, 1, 2, 0);
        pair(x, 1, 2, 2, 1, 4);
        pair(x, 2, 1, 2, 4, 1);
        check.due("one with oneself", x.agree(1, 1, 3), YearDeck.UNKNOWN);
        check.due("no first", x.agree(3, 1, 3), YearDeck.UNKNOWN);
        check.due("no other", x.agree(1, 3, 3), YearDeck.UNKNOWN);
        check.due("first -1", x.agree(-1, 1, 0), YearDeck.UNKNOWN);
        check.due("other -1", x.agree(1, -1, 0), YearDeck.UNKNOWN);
        check.due("what 3", x.agree(0, 1, 3), YearDeck.OUTSIDE);
        check.due("what -1", x.agree(0, 1, -1), YearDeck.OUTSIDE);
        YearDeck far = Check.riding("u3,33333;r050000;r057900");
        none(far, 0, 1);
        none(far, 1, 0);
    }

    private static void agreementsOfSeveral() {
        // Rider 1 is 2 ahead: 2 by section 1 or by section 3; the least set of the first.
        YearDeck x = Check.riding("u1,12020;r050000;r050200");
        pair(x, 0, 1, 1, 2, 0);
        pair(x, 1, 0, 1, 0, 2);
        // One year between them is made up by one more on a steeper section: two together, the first's least.
        YearDeck y = Check.riding("u1,2323;r040000;r040100");
        pair(y, 0, 1, 2, 2, 1);
        pair(y, 1, 0, 2, 1, 2);
        YearDeck z = Check.riding("u1,11;r020500;r020500");
        pair(z, 0, 1, 0, 0, 0);
    }

    private static void agreementsBySeats() {
        // A lad gains one more on the only section; alone that is 1 too many for the other one.
        YearDeck x = Check.riding("u1,2;r010100;l010000");
        none(x, 0, 1);
        x.seat(2);
        pair(x, 0, 1, 2, 1, 1);
        pair(x, 1, 0, 2, 1, 1);
        x.seat(3);
        pair(x, 0, 1, 2, 1, 1);
        x.seat(0);
        none(x, 0, 1);
        YearDeck y = Check.riding("u0,2;r010100;l010100");
        pair(y, 0, 1, 0, 0, 0);
    }

    private static void mosts() {
        check.due("no ride", new YearDeck().most(), YearDeck.STATE);
        YearDeck x = Check.riding("u1,2130;r042023;l021821;e131920");
        check.due("all", x.most(), 7);
        x.seat(0);
        check.due("no seats", x.most(), 0);
        x.wish(1, 18);
        check.due("right below", x.most(), 2);
        x.seat(1);
        x.wish(0, 99);
        check.due("one can't", x.most(), 6);
        // All four want both sections: two seats do for two of them.
        YearDeck y = Check.riding("u2,11;r020002;r020002;r020002;r020002");
        check.due("of six the least", y.most(), 3);
        y.seat(3);
        check.due("of four the least", y.most(), 7);
        y.seat(1);
        check.due("the first alone", y.most(), 1);
        y.wish(0, 50);
        check.due("the second alone", y.most(), 2);
        for (int a = 0; a < 4; a++) {
            y.wish(a, 1);
        }
        check.due("a section each", y.most(), 3);
        y.seat(2);
        check.due("two a section", y.most(), 15);
    }

    private static void mostsOfSeveral() {
        // Rider 0 wants all of the one seat; the two others share it.
        YearDeck x = Check.riding("u1,111;r030003;r020002;r230001");
        check.due("two rather than the first", x.most(), 6);
        // Rider 2 can choose; who comes first must not take its place for good.
        YearDeck y = Check.riding("u1,11;r020001;r010001");
        check.due("the first gives way", y.most(), 3);
        // A most set of two that is greater in number yet fewer in riders does not win.
        YearDeck z = Check.riding("u1,1;r010001;r010099;r010000;r010001");
        check.due("the least of equals", z.most(), 5);
    }

    private static void pair(YearDeck x, int a, int b, int sum, int first, int other) {
        check.due("agree " + a + " " + b + ": sections", x.agree(a, b, 0), sum);
        check.due("agree " + a + " " + b + ": first", x.agree(a, b, 1), first);
        check.due("agree " + a + " " + b + ": other", x.agree(a, b, 2), other);
    }

    private static void none(YearDeck x, int a, int b) {
        pair(x, a, b, YearDeck.NONE, YearDeck.NONE, YearDeck.NONE);
    }
}
