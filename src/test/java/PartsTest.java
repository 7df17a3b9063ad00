/** Promises 26 (tell) to 30 (fault). */
final class PartsTest {
    private static final Check check = new Check("PartsTest");

    public static void main(String[] args) {
        tells();
        rings();
        kindsTaken();
        traceWraps();
        check.end();
    }

    private static void tells() {
        YearDeck x = Check.riding("u1,213;r032023;l021821;e131920");
        check.due("a rider", x.tell(0), 20);
        check.due("leaves 1", x.trace(), 1);
        x = Check.riding("u1,213;r032023;l021821;e131920");
        check.due("a lad", x.tell(1), 118);
        check.due("leaves 2, 1", x.trace(), 2 * 31 + 1);
        x = Check.riding("u1,213;r032023;l021821;e131920");
        check.due("an elder", x.tell(2), 138);
        check.due("leaves 3, 2, 1, 1", x.trace(), ((3 * 31 + 2) * 31 + 1) * 31 + 1);
        int before = x.trace();
        check.due("no rider", x.tell(3), YearDeck.UNKNOWN);
        check.due("rider -1", x.tell(-1), YearDeck.UNKNOWN);
        check.due("leaves nothing", x.trace(), before);
        check.due("no ride", new YearDeck().tell(0), YearDeck.UNKNOWN);
    }

    private static void rings() {
        YearDeck x = Check.riding("u1,213;r032023;e131920;l021821;r032023");
        check.due("a rider", x.ring(0), 0);
        check.due("leaves 4", x.trace(), 4);
        check.due("an elder", x.ring(1), 60);
        check.due("leaves 5", x.trace(), 4 * 31 + 5);
        check.due("a lad", x.ring(2), 2);
        check.due("leaves 4 again", x.trace(), (4 * 31 + 5) * 31 + 4);
        check.due("a rider, the last", x.ring(3), 3);
        int before = x.trace();
        check.due("no rider", x.ring(4), YearDeck.UNKNOWN);
        check.due("rider -1", x.ring(-1), YearDeck.UNKNOWN);
        check.due("leaves nothing", x.trace(), before);
    }

    private static void kindsTaken() {
        YearDeck x = Check.riding("u1,213;r032023;l021821;e131920");
        for (int a = 0; a < 3; a++) {
            for (int kind = 0; kind < 3; kind++) {
                boolean is = a >= kind;
                check.due("as " + a + " " + kind, x.as(a, kind), is ? 1 : -12);
                check.due("its fault", x.fault(), is ? 0 : 2);
            }
        }
        check.due("a cast first", x.as(0, 2), -12);
        check.due("kind 3", x.as(0, 3), YearDeck.OUTSIDE);
        check.due("no fault when refused", x.fault(), 0);
        check.due("kind -1", x.as(0, -1), YearDeck.OUTSIDE);
        x.as(0, 2);
        check.due("no rider", x.as(3, 3), YearDeck.UNKNOWN);
        check.due("no fault when unknown", x.fault(), 0);
        check.due("rider -1", x.as(-1, 0), YearDeck.UNKNOWN);
        check.due("taken leaves no trace", x.trace(), 0);
    }

    private static void traceWraps() {
        YearDeck x = Check.riding("u1,213;e131920");
        int due = 0;
        for (int k = 0; k < 20; k++) {
            x.ring(0);
            due = due * 31 + 5;
            check.due("trace by " + (k + 1) + " rings", x.trace(), due);
        }
    }
}
