/** Boundaries of the text of a ride (promise 2; its form is told in the terms). */
final class TextBounds {
    private static final String LONGEST = "u3,33333;e057999;l051000;r230101;r450000";
    private static Bounds b;

    static void all(Bounds bounds) {
        b = bounds;
        b.of(2, "u, a digit 0 .. 3 (SEATS above)", TextBounds::seats);
        b.of(2, "a comma", TextBounds::comma);
        b.of(2, "1 to 5 digits 0 .. 3 (SLOPES of SECTIONS", TextBounds::sections);
        b.of(2, "numbered from 0 on: SECTION s goes from STOP s to STOP s + 1", TextBounds::sectionsAreNumbered);
        b.of(2, "then 1 to 4 RIDERS, numbered from 0 on", TextBounds::riders);
        b.of(2, "a letter", TextBounds::letters);
        b.of(2, "the STOP where they get ON: 0 or more, ahead of the last one", TextBounds::on);
        b.of(2, "where they get OFF: a STOP behind that", TextBounds::off);
        b.of(2, "two digits 00 .. 79 (AGE)", TextBounds::ages);
        b.of(2, "two digits 00 .. 99 (WANT)", TextBounds::wants);
        b.of(2, "FIRST FAULT: the place (from 0 on) of the first code with which no TEXT goes on", TextBounds::everyCode);
        b.of(2, "of two digits the first, if none begins so, else the second", TextBounds::twoDigits);
        b.of(2, "the digit of a sixth SECTION", TextBounds::sixthSection);
        b.of(2, "the ; of a fifth RIDER", TextBounds::fifthRider);
        b.of(2, "how many codes there are, if it just ends too soon", TextBounds::endsTooSoon);
        b.of(2, "(Codes: u 117, r 114, l 108, e 101, comma 44", TextBounds::codes);
        b.of(2, "digits 48 .. 57.)", TextBounds::digits);
        b.of(2, "Kinds: 0 RIDER (r)", () -> kind('r', 0));
        b.of(2, "1 LAD (l), a RIDER", () -> kind('l', 1));
        b.of(2, "2 ELDER (e), a LAD", () -> kind('e', 2));
        b.of(2, "A TEXT that is taken makes all anew: no READINGS", TextBounds::takenMakesAllAnew);
    }

    private static void text(String text, int due) {
        b.due("ride by " + text, Check.rideOf(new YearDeck(), text), due);
    }

    private static void seats() {
        for (char code = '/'; code <= ':'; code++) {
            boolean taken = code >= '0' && code <= '3';
            YearDeck x = new YearDeck();
            b.due("seats " + code, Check.rideOf(x, "u" + code + ",2;r012030"), taken ? 1 : -101);
            b.due("seats there are by " + code, x.many(2), taken ? code - '0' : 0);
        }
    }

    private static void comma() {
        text("u1,2;r012030", 1);
        text("u1+2;r012030", -102);
        text("u1-2;r012030", -102);
        text("u12;r012030", -102);
        text("u1,,2;r012030", -103);
    }

    private static void sections() {
        for (char code = '/'; code <= ':'; code++) {
            boolean taken = code >= '0' && code <= '3';
            YearDeck x = new YearDeck();
            b.due("one slope " + code, Check.rideOf(x, "u1," + code + ";r012030"), taken ? 1 : -103);
            b.due("slope by " + code, x.slope(0), taken ? code - '0' : Bounds.UNKNOWN);
            x = new YearDeck();
            b.due("fifth slope " + code, Check.rideOf(x, "u1,0000" + code + ";r012030"), taken ? 1 : -107);
            b.due("fifth slope by " + code, x.slope(4), taken ? code - '0' : Bounds.UNKNOWN);
        }
        text("u1,;r012030", -103);
        for (int n = 1; n <= 7; n++) {
            YearDeck x = new YearDeck();
            b.due(n + " sections", Check.rideOf(x, "u1," + "3".repeat(n) + ";r012030"), n <= 5 ? 1 : -108);
            b.due("sections of " + n, x.many(1), n <= 5 ? n : 0);
        }
    }

    private static void sectionsAreNumbered() {
        YearDeck x = Check.riding("u1,01230;r010000;r450000;r050000");
        for (int s = 0; s < 5; s++) {
            b.due("slope " + s, x.slope(s), s % 4);
        }
        b.due("from stop 0 to 1", x.ofRider(0, 5), 1);
        b.due("from stop 4 to 5", x.ofRider(1, 5), 16);
        b.due("from stop 0 to 5", x.ofRider(2, 5), 31);
    }

    private static void riders() {
        text("u1,2", -104);
        text("u1,2;", -105);
        for (int n = 1; n <= 6; n++) {
            YearDeck x = new YearDeck();
            StringBuilder text = new StringBuilder("u1,2");
            for (int a = 0; a < n; a++) {
                text.append(";r010").append(a).append("00");
            }
            b.due(n + " riders", Check.rideOf(x, text.toString()), n <= 4 ? n : -136);
            b.due("riders of " + n, x.many(0), n <= 4 ? n : 0);
            for (int a = 0; a < 5; a++) {
                b.due("age of rider " + a + " of " + n, x.ofRider(a, 3), a < n && n <= 4 ? a : Bounds.UNKNOWN);
            }
        }
    }

    private static void letters() {
        for (char code = 'A'; code <= 'z'; code++) {
            text("u1,2;" + code + "012030", code == 'r' || code == 'l' || code == 'e' ? 1 : -105);
        }
    }

    private static void on() {
        for (int sections = 1; sections <= 5; sections++) {
            String head = "u1," + "1".repeat(sections) + ";r";
            for (char code = '/'; code <= ':'; code++) {
                boolean taken = code >= '0' && code - '0' < sections;
                text(head + code + sections + "0000", taken ? 1 : -100 - head.length());
            }
        }
    }

    private static void off() {
        for (int sections = 1; sections <= 5; sections++) {
            for (int on = 0; on < sections; on++) {
                String head = "u1," + "1".repeat(sections) + ";r" + on;
                for (char code = '/'; code <= ':'; code++) {
                    boolean taken = code - '0' > on && code - '0' <= sections;
                    text(head + code + "0000", taken ? 1 : -100 - head.length());
                }
            }
        }
    }

    private static void ages() {
        for (int age = 0; age <= 99; age++) {
            YearDeck x = new YearDeck();
            b.due("age " + age, Check.rideOf(x, "u1,2;r01" + twoDigits(age) + "00"), age <= 79 ? 1 : -108);
            b.due("age by " + age, x.ofRider(0, 3), age <= 79 ? age : Bounds.UNKNOWN);
        }
    }

    private static void wants() {
        for (int want = 0; want <= 99; want++) {
            YearDeck x = new YearDeck();
            b.due("want " + want, Check.rideOf(x, "u1,2;r0100" + twoDigits(want)), 1);
            b.due("want by " + want, x.ofRider(0, 4), want);
        }
        text("u1,2;r0100:0", -110);
        text("u1,2;r0100/0", -110);
        text("u1,2;r01009:", -111);
        text("u1,2;r01009/", -111);
        text("u1,2;r010099", 1);
        text("u1,2;r0100990", -112);
    }

    private static String twoDigits(int v) {
        return "" + v / 10 + v % 10;
    }

    /** At each place every byte: those told go on, with all others the first fault is there. */
    private static void everyCode() {
        String text = "u1,213;r021530;e237999;l120000;r030000";
        String digits = "0123456789";
        String[] rider = {";", "rle", "012", null, "01234567", digits, digits, digits};
        String[] offs = {"123", "3", "23", "123"};
        for (int place = 0; place < text.length(); place++) {
            String taken;
            if (place < 6) {
                taken = new String[] {"u", "0123", ",", "0123", "0123;", "0123;"}[place];
            } else {
                int part = (place - 6) % 8;
                taken = part == 3 ? offs[(place - 6) / 8] : rider[part];
                // A fourth section may still begin where the first rider does.
                taken = place == 6 ? ";0123" : taken;
            }
            for (int code = -128; code < 128; code++) {
                atPlace(text, place, code, taken.indexOf(code) >= 0);
            }
        }
    }

    private static void atPlace(String text, int place, int code, boolean taken) {
        YearDeck x = new YearDeck();
        Check.write(x, 0, Check.BYTES, text);
        x.put(0, place, code);
        int got = x.ride(0, 0, 0, text.length());
        String call = "code " + code + " at " + place + " of " + text;
        if (taken) {
            b.due(call + " answered " + got + ": goes on", got > 0 || got < -100 - place ? 1 : 0, 1);
        } else {
            b.due(call, got, -100 - place);
        }
    }

    private static void twoDigits() {
        text("u1,2;r017900", 1);
        text("u1,2;r018000", -108);
        text("u1,2;r019900", -108);
        text("u1,2;r01/000", -108);
        text("u1,2;r018x00", -108);
        text("u1,2;r017x00", -109);
        text("u1,2;r010:00", -109);
        text("u1,2;r0179x0", -110);
        text("u1,2;r01799x", -111);
        text("u1,2;r018", -108);
        text("u1,2;r017", -109);
    }

    private static void sixthSection() {
        text("u1,33333;r010000", 1);
        text("u1,333330;r010000", -108);
        text("u1,333333333;r010000", -108);
        text("u1,333330", -108);
        text("u1,333334", -108);
        text("u1,33333", -108);
    }

    private static void fifthRider() {
        text(LONGEST, 4);
        text(LONGEST + ";", -140);
        text(LONGEST + ";r010000", -140);
        text(LONGEST + "0", -140);
        text("u0,0;r010000;r010000;r010000;r010000;", -136);
        text("u0,0;r010000;r010000;r010000;", -129);
    }

    private static void endsTooSoon() {
        for (int n = 0; n <= LONGEST.length(); n++) {
            boolean whole = n >= 16 && n % 8 == 0;
            text(LONGEST.substring(0, n), whole ? n / 8 - 1 : -100 - n);
        }
        YearDeck x = Bounds.noRide();
        b.due("no codes of a row's end", x.ride(0, 0, 3, 0), -100);
        x.sheet(3, 0, 0);
        b.due("no codes of an empty row", x.ride(3, 0, 0, 0), -100);
    }

    private static void codes() {
        int[] codes = {117, 49, 44, 50, 59, 114, 48, 49, 50, 48, 51, 48, 59, 108, 48, 49, 50, 48, 51, 48, 59, 101, 48, 49,
            50, 48, 51, 48};
        YearDeck x = new YearDeck();
        Check.row(x, 0, Check.INTS, codes);
        b.due("ride by codes", x.ride(0, 2, 0, codes.length), 3);
        for (int place = 0; place < codes.length; place++) {
            for (int other : new int[] {codes[place] + 256, codes[place] - 256, codes[place] + 65536, -codes[place]}) {
                x.put(0, place, other);
                b.due(other + " at " + place + " of ints", x.ride(0, 2, 0, codes.length), -100 - place);
            }
            x.put(0, place, codes[place]);
        }
    }

    private static void digits() {
        int[] codes = {117, 49, 44, 50, 59, 114, 48, 49, 48, 48, 48, 48};
        for (int code = 46; code <= 59; code++) {
            codes[11] = code;
            YearDeck x = new YearDeck();
            Check.row(x, 0, Check.SHORTS, codes);
            boolean digit = code >= 48 && code <= 57;
            b.due("last digit " + code, x.ride(0, 1, 0, 12), digit ? 1 : -111);
            b.due("want by digit " + code, x.ofRider(0, 4), digit ? code - 48 : Bounds.UNKNOWN);
        }
    }

    private static void kind(char letter, int kind) {
        YearDeck x = Check.riding("u1,2;" + letter + "010000");
        b.due("kind of " + letter, x.ofRider(0, 0), kind);
        for (int taken = 0; taken <= 2; taken++) {
            b.due(letter + " as " + taken, x.as(0, taken), taken <= kind ? 1 : -12);
        }
    }

    private static void takenMakesAllAnew() {
        YearDeck x = Check.riding("u3,33333;e057999;l051000;r230101;r450000");
        for (int k = 0; k < 8; k++) {
            x.reading(k % 4, 0, 150);
        }
        b.due("a smaller ride", Check.rideOf(x, "u0,1;r010203"), 1);
        YearDeck y = Check.riding("u0,1;r010203");
        b.same("what is seen of it", Seen.of(x), Seen.of(y));
        b.due("the first reading again", x.reading(0, 1, 3), 0);
        b.due("the same ride again", x.ride(3, 0, 0, 12), 1);
        b.due("has no readings", x.many(3), 0);
        b.due("none to take back", x.back(1), Bounds.OUTSIDE);
    }
}
