/** All that can be seen of an object but its fault, as a text: two objects with the same one are alike. */
final class Seen {
    private final YearDeck x;
    private final StringBuilder text = new StringBuilder();

    private Seen(YearDeck x) {
        this.x = x;
    }

    /** Takes the object's readings back, one by one, and its fault: it is for objects that are done with. */
    static String of(YearDeck x) {
        Seen seen = new Seen(x);
        seen.ride();
        for (int k = 0; k < 4; k++) {
            seen.sheet(k);
        }
        seen.readings();
        return seen.text.toString();
    }

    private void ride() {
        text.append("trace ").append(x.trace()).append(", seats ").append(x.many(2)).append(", slopes");
        for (int s = 0; s < x.many(1); s++) {
            text.append(' ').append(x.slope(s));
        }
        for (int a = 0; a < x.many(0); a++) {
            text.append("; rider");
            for (int what = 0; what <= 5; what++) {
                text.append(' ').append(x.ofRider(a, what));
            }
        }
    }

    private void sheet(int k) {
        text.append("; sheet ").append(k);
        for (int lane = 0; lane < 3; lane++) {
            x.cell(k, -1, lane);
            if (x.fault() == 3) {
                text.append(" of lane ").append(lane).append(':');
                for (int i = 0; x.cell(k, i, lane) != YearDeck.LOST; i++) {
                    text.append(' ').append(x.cell(k, i, lane));
                }
            }
        }
    }

    private void readings() {
        text.append("; readings ").append(x.many(3));
        for (int left = x.many(3); left > 0; left = x.back(1)) {
            text.append("; by ").append(left).append(':');
            for (int a = 0; a < x.many(0); a++) {
                text.append(' ').append(x.kinds(a)).append(' ').append(x.began(a, 1));
            }
            for (int s = 0; s < x.many(1); s++) {
                text.append(' ').append(x.slopes(s));
            }
        }
    }
}
