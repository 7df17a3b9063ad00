import java.util.Random;

/** Long runs of calls, by chance but always the same ones: the class answers what the model answers. */
final class ModelTest {
    private static final Check check = new Check("ModelTest");
    private static final int RUNS = 1500, CALLS = 512;
    private static final int[] ODD = {-1, -2, 4, 5, 32, 33, 60, 61, 79, 80, 99, 100, 199, 200, 256, 65536,
        Check.MIN, Check.MAX, Check.MIN + 1, Check.MAX - 1};

    private final Random chance;
    private final YearDeck x = new YearDeck();
    private final Model due = new Model();
    private int calls = 0;

    private ModelTest(long seed) {
        chance = new Random(seed);
    }

    public static void main(String[] args) {
        for (int run = 0; run < RUNS; run++) {
            new ModelTest(run).run();
        }
        check.end();
    }

    private void run() {
        int oddity = chance.nextInt(3);
        while (calls < CALLS) {
            if (chance.nextInt(60) == 0) {
                writeText();
            } else if (chance.nextInt(25) == 0) {
                writeSitting();
            } else {
                call(chance.nextInt(30), oddity);
            }
        }
    }

    /** A number of 0 .. top, now and then another one. */
    private int some(int top, int oddity) {
        if (chance.nextInt(100) < 3 * oddity) {
            return ODD[chance.nextInt(ODD.length)];
        }
        return chance.nextInt(top + 1);
    }

    private void same(String call, long got, long want) {
        calls++;
        check.due(call + " (call " + calls + ")", got, want);
    }

    private void writeText() {
        String text = text();
        if (chance.nextInt(3) == 0) {
            text = spoiled(text);
        }
        int ahead = chance.nextInt(3), behind = chance.nextInt(3), lane = chance.nextInt(3), k = chance.nextInt(4);
        same("sheet", x.sheet(k, lane, ahead + text.length() + behind), due.sheet(k, lane, ahead + text.length() + behind));
        for (int p = 0; p < text.length(); p++) {
            same("put", x.put(k, ahead + p, text.charAt(p)), due.put(k, ahead + p, text.charAt(p)));
        }
        int n = text.length() + (chance.nextInt(8) == 0 ? behind : 0);
        same("ride by " + text, x.ride(k, lane, ahead, n), due.ride(k, lane, ahead, n));
        for (int what = 0; what < 4; what++) {
            same("many", x.many(what), due.many(what));
        }
    }

    private String text() {
        int sections = 1 + chance.nextInt(5);
        StringBuilder text = new StringBuilder("u").append(chance.nextInt(4)).append(',');
        for (int s = 0; s < sections; s++) {
            text.append(chance.nextInt(4));
        }
        int riders = 1 + chance.nextInt(4);
        int age = chance.nextInt(70);
        for (int a = 0; a < riders; a++) {
            int on = chance.nextInt(sections);
            int off = on + 1 + chance.nextInt(sections - on);
            int years = chance.nextInt(5) == 0 ? chance.nextInt(80) : age + chance.nextInt(8);
            int want = Math.min(99, years + chance.nextInt(10));
            text.append(';').append("rle".charAt(chance.nextInt(3))).append(on).append(off)
                .append(String.format("%02d%02d", years, want));
        }
        return text.toString();
    }

    private String spoiled(String text) {
        int p = chance.nextInt(text.length());
        String codes = "u,;rle0123456789:/x";
        char code = codes.charAt(chance.nextInt(codes.length()));
        switch (chance.nextInt(4)) {
            case 0: return text.substring(0, p);
            case 1: return text.substring(0, p) + code + text.substring(p + 1);
            case 2: return text.substring(0, p) + text.substring(p + 1);
            default: return text.substring(0, p) + code + text.substring(p);
        }
    }

    private void writeSitting() {
        int k = chance.nextInt(4), lane = chance.nextInt(3), n = due.many(0), i = chance.nextInt(3);
        same("sheet", x.sheet(k, lane, i + n), due.sheet(k, lane, i + n));
        for (int a = 0; a < n; a++) {
            int set = chance.nextInt(32) & due.ofRider(a, 5);
            set = chance.nextInt(20) == 0 ? some(31, 5) : chance.nextInt(3) == 0 ? 0 : set;
            same("put", x.put(k, i + a, set), due.put(k, i + a, set));
        }
        int[] whats = {0, 1, 2, 3, 10, 11, 12, 13, 14, 20, 21, 22, 23};
        for (int what : whats) {
            same("sit " + what, x.sit(k, lane, i, n, what), due.sit(k, lane, i, n, what));
        }
    }

    private void call(int which, int o) {
        int a = some(3, o), b = some(3, o), c = some(5, o), d = some(60, o), e = some(60, o);
        int lane = some(2, o), what = some(23, o);
        int set = chance.nextInt(8) == 0 ? some(31, o) : chance.nextInt(32) & Math.max(0, due.ofRider(a, 5));
        int years = chance.nextInt(8) == 0 ? some(199, o) : Math.max(0, due.age(a, set)) + chance.nextInt(2);
        switch (which) {
            case 0: same("ride", x.ride(a, lane, d / 2, e), due.ride(a, lane, d / 2, e)); break;
            case 1: same("ofRider", x.ofRider(a, c), due.ofRider(a, c)); break;
            case 2: same("slope", x.slope(c), due.slope(c)); break;
            case 3: same("tilt", x.tilt(c, b), due.tilt(c, b)); break;
            case 4: same("seat", x.seat(a), due.seat(a)); break;
            case 5: same("wish", x.wish(a, years), due.wish(a, years)); break;
            case 6: same("gain", x.gain(a, c), due.gain(a, c)); break;
            case 7: same("age", x.age(a, set), due.age(a, set)); break;
            case 8: same("sit", x.sit(a, lane, c, b, what), due.sit(a, lane, c, b, what)); break;
            case 9: same("way", x.way(a, years), due.way(a, years)); break;
            case 10: same("spread", x.spread(a), due.spread(a)); break;
            case 11: same("agree", x.agree(a, b, c / 2), due.agree(a, b, c / 2)); break;
            case 12: same("most", x.most(), due.most()); break;
            case 13: same("reading", x.reading(a, set, years), due.reading(a, set, years)); break;
            case 14: same("back", x.back(c), due.back(c)); break;
            default: callBehind(which, o, a, b, c); break;
        }
    }

    private void callBehind(int which, int o, int a, int b, int c) {
        int years = some(100, o), lane = some(2, o), cell = some(61, o), n = some(20, o), v = some(300, o);
        switch (which) {
            case 15: same("slopes", x.slopes(c), due.slopes(c)); break;
            case 16: same("kinds", x.kinds(a), due.kinds(a)); break;
            case 17: same("began", x.began(a, b / 2), due.began(a, b / 2)); break;
            case 18: same("odds", x.odds(a, years, b / 2), due.odds(a, years, b / 2)); break;
            case 19: same("sheet", x.sheet(a, lane, cell), due.sheet(a, lane, cell)); break;
            case 20: same("lose", x.lose(a), due.lose(a)); break;
            case 21: same("put", x.put(a, cell, v), due.put(a, cell, v)); break;
            case 22: same("cell", x.cell(a, cell, lane), due.cell(a, cell, lane)); break;
            case 23: same("copy", x.copy(a, c, b, cell / 4, n), due.copy(a, c, b, cell / 4, n)); break;
            case 24: same("tell", x.tell(a), due.tell(a)); break;
            case 25: same("ring", x.ring(a), due.ring(a)); break;
            case 26: same("as", x.as(a, b), due.as(a, b)); break;
            case 27: same("trace", x.trace(), due.trace()); break;
            case 28: same("fault", x.fault(), due.fault()); break;
            default: same("many", x.many(c), due.many(c)); break;
        }
    }
}
