/**
 * Upstairs is a year ahead: a ride over a hill, whose riders get off the older the more they sit above.
 * The document DOC.md says what each call answers; here stands only why it is done so.
 */
public final class YearDeck {
    public static final int UNKNOWN = -1, OUTSIDE = -2, STATE = -3, FULL = -4, NONE = -9;
    public static final long LOST = Long.MIN_VALUE;

    private static final int NO_FAULT = 0, NULL = 1, CAST = 2, INDEX = 3, SIZE = 4;
    private static final int SHEETS = 4, LANES = 3, LONGEST_ROW = 60;
    private static final int MOST_SECTIONS = 5, MOST_RIDERS = 4, MOST_READINGS = 8;
    private static final int STEEPEST = 3, MOST_SEATS = 3, OLDEST_ON = 79, OLDEST_WANT = 99, OLDEST_OFF = 199;
    private static final int PLAIN = 0, LAD = 1, ELDER = 2;
    private static final int ASK_SECTION = 10, ASK_RIDER = 20;

    private final Ride trip = new Ride();
    private final Readings read = new Readings();
    private final Sheet[] sheets = new Sheet[SHEETS];
    private final int[] sitting = new int[MOST_RIDERS];
    private int traced = 0;
    private int lastFault = NO_FAULT;

    public YearDeck() {
        for (int k = 0; k < SHEETS; k++) {
            sheets[k] = new Sheet();
        }
    }

    // ---- 1 the ride

    public int ride(int sheet, int lane, int i, int n) {
        lastFault = NO_FAULT;
        if (!isSheet(sheet)) {
            return UNKNOWN;
        }
        if (!isLane(lane)) {
            return OUTSIDE;
        }
        Sheet text = sheets[sheet];
        int found = text.faultOfCells(lane, i, n);
        if (found != NO_FAULT) {
            return failed(found);
        }
        int wrong = RideText.firstFault(text, i, n);
        if (wrong != NONE) {
            return -100 - wrong;
        }
        trip.board(text, i, n);
        read.count = 0;
        return trip.count;
    }

    public int ofRider(int a, int what) {
        if (!trip.hasRider(a)) {
            return UNKNOWN;
        }
        Rider who = trip.riders[a];
        switch (what) {
            case 0: return who.kind;
            case 1: return who.on;
            case 2: return who.off;
            case 3: return who.years;
            case 4: return who.want;
            case 5: return who.own();
            default: return OUTSIDE;
        }
    }

    public int slope(int s) {
        return trip.hasSection(s) ? trip.steep[s] : UNKNOWN;
    }

    public int tilt(int s, int v) {
        if (!trip.hasSection(s)) {
            return UNKNOWN;
        }
        if (!within(v, STEEPEST)) {
            return OUTSIDE;
        }
        int before = trip.steep[s];
        trip.steep[s] = v;
        return before;
    }

    public int seat(int v) {
        if (!within(v, MOST_SEATS)) {
            return OUTSIDE;
        }
        if (!trip.isTold()) {
            return STATE;
        }
        int before = trip.seats;
        trip.seats = v;
        return before;
    }

    public int wish(int a, int v) {
        if (!trip.hasRider(a)) {
            return UNKNOWN;
        }
        if (!within(v, OLDEST_WANT)) {
            return OUTSIDE;
        }
        Rider who = trip.riders[a];
        int before = who.want;
        who.want = v;
        return before;
    }

    public int gain(int a, int s) {
        if (!trip.hasRider(a) || !trip.hasSection(s)) {
            return UNKNOWN;
        }
        return trip.riders[a].yearsAbove(trip.steep[s]);
    }

    // ---- 2 sittings

    public int age(int a, int set) {
        if (!trip.hasRider(a)) {
            return UNKNOWN;
        }
        Rider who = trip.riders[a];
        return who.owns(set) ? trip.yearsOff(who, set) : OUTSIDE;
    }

    public int sit(int sheet, int lane, int i, int n, int what) {
        lastFault = NO_FAULT;
        if (!isSheet(sheet)) {
            return UNKNOWN;
        }
        if (!isLane(lane) || !isSittingQuestion(what)) {
            return OUTSIDE;
        }
        if (!trip.isTold()) {
            return STATE;
        }
        Sheet told = sheets[sheet];
        int found = told.faultOfCells(lane, i, n);
        if (found != NO_FAULT) {
            return failed(found);
        }
        if (n != trip.count || !takeSitting(told, i)) {
            return OUTSIDE;
        }
        return ofSitting(what);
    }

    private static boolean isSittingQuestion(int what) {
        return what >= 0 && what <= 3
            || what >= ASK_SECTION && what < ASK_SECTION + MOST_SECTIONS
            || what >= ASK_RIDER && what < ASK_RIDER + MOST_RIDERS;
    }

    private boolean takeSitting(Sheet told, int i) {
        for (int a = 0; a < trip.count; a++) {
            int set = told.at(i + a);
            if (!trip.riders[a].owns(set)) {
                return false;
            }
            sitting[a] = set;
        }
        return true;
    }

    private int ofSitting(int what) {
        int load = 0;
        for (int a = 0; a < trip.count; a++) {
            load += Load.of(sitting[a]);
        }
        int wrong = trip.firstOver(load);
        if (what == 1) {
            return wrong;
        }
        if (wrong != NONE) {
            return -100 - wrong;
        }
        if (what >= ASK_RIDER) {
            int a = what - ASK_RIDER;
            return trip.hasRider(a) ? trip.yearsOff(trip.riders[a], sitting[a]) : NONE;
        }
        if (what >= ASK_SECTION) {
            int s = what - ASK_SECTION;
            return trip.hasSection(s) ? Load.on(load, s) : NONE;
        }
        if (what == 3) {
            return eldest();
        }
        return what == 0 ? Integer.bitCount(rightOnes()) : rightOnes();
    }

    private int rightOnes() {
        int right = 0;
        for (int a = 0; a < trip.count; a++) {
            if (trip.isRight(trip.riders[a], sitting[a])) {
                right |= 1 << a;
            }
        }
        return right;
    }

    private int eldest() {
        int best = 0;
        int most = NONE;
        for (int a = 0; a < trip.count; a++) {
            int years = trip.yearsOff(trip.riders[a], sitting[a]);
            if (years > most) {
                best = a;
                most = years;
            }
        }
        return best;
    }

    // ---- 3 where to sit

    public int way(int a, int v) {
        if (!trip.hasRider(a)) {
            return UNKNOWN;
        }
        if (!within(v, OLDEST_OFF)) {
            return OUTSIDE;
        }
        Rider who = trip.riders[a];
        int best = NONE;
        for (int set = 0; set <= who.own(); set++) {
            if (trip.canSitAlone(who, set) && trip.yearsOff(who, set) == v
                    && (best == NONE || Integer.bitCount(set) < Integer.bitCount(best))) {
                best = set;
            }
        }
        return best;
    }

    public int spread(int a) {
        if (!trip.hasRider(a)) {
            return UNKNOWN;
        }
        Rider who = trip.riders[a];
        // No one gains more than 4 years on each of 5 sections, so 32 bits hold every gain.
        int gains = 0;
        for (int set = 0; set <= who.own(); set++) {
            if (trip.canSitAlone(who, set)) {
                gains |= 1 << (trip.yearsOff(who, set) - who.years);
            }
        }
        return Integer.bitCount(gains);
    }

    public int agree(int a, int b, int what) {
        if (!trip.hasRider(a) || !trip.hasRider(b) || a == b) {
            return UNKNOWN;
        }
        if (!within(what, 2)) {
            return OUTSIDE;
        }
        int pair = trip.agreeing(trip.riders[a], trip.riders[b]);
        if (pair == NONE) {
            return NONE;
        }
        int first = Ride.firstOf(pair);
        int other = Ride.otherOf(pair);
        if (what == 0) {
            return Integer.bitCount(first) + Integer.bitCount(other);
        }
        return what == 1 ? first : other;
    }

    public int most() {
        return trip.isTold() ? trip.mostRight() : STATE;
    }

    // ---- 4 how old they got off

    public int reading(int a, int set, int v) {
        if (!trip.hasRider(a)) {
            return UNKNOWN;
        }
        if (!trip.riders[a].owns(set) || !within(v, OLDEST_OFF)) {
            return OUTSIDE;
        }
        if (read.count >= MOST_READINGS) {
            return FULL;
        }
        read.append(a, set, v);
        return read.count - 1;
    }

    public int back(int k) {
        if (!within(k, read.count)) {
            return OUTSIDE;
        }
        read.count -= k;
        return read.count;
    }

    public int slopes(int s) {
        if (!trip.hasSection(s)) {
            return UNKNOWN;
        }
        int before = trip.steep[s];
        int found = 0;
        for (int v = 0; v <= STEEPEST; v++) {
            trip.steep[s] = v;
            if (read.allHold(trip)) {
                found |= 1 << v;
            }
        }
        trip.steep[s] = before;
        return found;
    }

    public int kinds(int a) {
        if (!trip.hasRider(a)) {
            return UNKNOWN;
        }
        Rider who = trip.riders[a];
        int before = who.kind;
        int found = 0;
        for (int kind = PLAIN; kind <= ELDER; kind++) {
            who.kind = kind;
            if (read.allHold(trip)) {
                found |= 1 << kind;
            }
        }
        who.kind = before;
        return found;
    }

    public int began(int a, int what) {
        if (!trip.hasRider(a)) {
            return UNKNOWN;
        }
        if (!within(what, 1)) {
            return OUTSIDE;
        }
        Rider who = trip.riders[a];
        int before = who.years;
        int many = 0;
        int least = NONE;
        for (int years = OLDEST_ON; years >= 0; years--) {
            who.years = years;
            if (read.allHold(trip)) {
                many++;
                least = years;
            }
        }
        who.years = before;
        return what == 0 ? many : least;
    }

    public long odds(int a, int v, int which) {
        if (!trip.hasRider(a) || !within(v, OLDEST_OFF) || !within(which, 1)) {
            return LOST;
        }
        Rider who = trip.riders[a];
        int upper = 0;
        int lower = 0;
        for (int set = 0; set <= who.own(); set++) {
            if (who.owns(set)) {
                lower++;
                upper += trip.yearsOff(who, set) >= v ? 1 : 0;
            }
        }
        // There are a power of two sets, so halving both alone brings least terms.
        for (int k = 0; k < MOST_SECTIONS && lower > 1 && upper % 2 == 0; k++) {
            lower /= 2;
            upper /= 2;
        }
        return which == 0 ? upper : lower;
    }

    // ---- 5 sheets, parts

    public int sheet(int k, int lane, int n) {
        lastFault = NO_FAULT;
        if (!isSheet(k)) {
            return UNKNOWN;
        }
        if (!isLane(lane) || n > LONGEST_ROW) {
            return OUTSIDE;
        }
        if (n < 0) {
            return failed(SIZE);
        }
        sheets[k].renew(lane, n);
        return 1;
    }

    public int lose(int k) {
        if (!isSheet(k)) {
            return UNKNOWN;
        }
        if (!sheets[k].hasRow()) {
            return 0;
        }
        sheets[k].drop();
        return 1;
    }

    public int put(int k, int i, int v) {
        lastFault = NO_FAULT;
        if (!isSheet(k)) {
            return UNKNOWN;
        }
        Sheet row = sheets[k];
        if (!row.hasRow()) {
            return failed(NULL);
        }
        if (!row.hasCell(i)) {
            return failed(INDEX);
        }
        row.write(i, v);
        return 1;
    }

    public long cell(int k, int i, int lane) {
        lastFault = NO_FAULT;
        if (!isSheet(k) || !isLane(lane)) {
            return LOST;
        }
        Sheet row = sheets[k];
        lastFault = row.faultOfRow(lane);
        if (lastFault == NO_FAULT && !row.hasCell(i)) {
            lastFault = INDEX;
        }
        return lastFault == NO_FAULT ? row.at(i) : LOST;
    }

    public int copy(int k, int i, int other, int j, int n) {
        lastFault = NO_FAULT;
        if (!isSheet(k) || !isSheet(other)) {
            return UNKNOWN;
        }
        Sheet from = sheets[k];
        Sheet to = sheets[other];
        if (!from.hasRow() || !to.hasRow()) {
            return failed(NULL);
        }
        if (from.lane != to.lane) {
            return failed(CAST);
        }
        if (!from.hasCells(i, n) || !to.hasCells(j, n)) {
            return failed(INDEX);
        }
        System.arraycopy(from.cells, i, to.cells, j, n);
        return n;
    }

    public int tell(int a) {
        if (!trip.hasRider(a)) {
            return UNKNOWN;
        }
        Rider who = trip.riders[a];
        switch (who.kind) {
            case PLAIN: return toldAsRider(who);
            case LAD: return toldAsLad(who);
            default: return toldAsElder(who);
        }
    }

    public int ring(int a) {
        if (!trip.hasRider(a)) {
            return UNKNOWN;
        }
        if (trip.riders[a].kind == ELDER) {
            beginBody(5);
            return 60;
        }
        beginBody(4);
        return a;
    }

    public int as(int a, int kind) {
        lastFault = NO_FAULT;
        if (!trip.hasRider(a)) {
            return UNKNOWN;
        }
        if (!within(kind, ELDER)) {
            return OUTSIDE;
        }
        // Each kind is one of the kind before it, so whoever is of a later one is of an earlier one too.
        return trip.riders[a].kind >= kind ? 1 : failed(CAST);
    }

    public int trace() {
        return traced;
    }

    public int fault() {
        return lastFault;
    }

    public int many(int what) {
        switch (what) {
            case 0: return trip.count;
            case 1: return trip.sections;
            case 2: return trip.seats;
            case 3: return read.count;
            default: return OUTSIDE;
        }
    }

    private int toldAsRider(Rider who) {
        beginBody(1);
        return who.years;
    }

    private int toldAsLad(Rider who) {
        beginBody(2);
        return toldAsRider(who) + 100;
    }

    private int toldAsElder(Rider who) {
        beginBody(3);
        return toldAsLad(who) + toldAsRider(who);
    }

    private void beginBody(int number) {
        traced = 31 * traced + number;
    }

    private int failed(int found) {
        lastFault = found;
        return -10 - found;
    }

    private static boolean isSheet(int k) {
        return within(k, SHEETS - 1);
    }

    private static boolean isLane(int lane) {
        return within(lane, LANES - 1);
    }

    private static boolean within(int v, int top) {
        return v >= 0 && v <= top;
    }

    /** A row of numbers, or nothing; its cells are made once and used again by every later row. */
    private static final class Sheet {
        private static final int NOTHING = -1;

        final int[] cells = new int[LONGEST_ROW];
        int lane = NOTHING;
        int length = 0;

        boolean hasRow() {
            return lane != NOTHING;
        }

        void renew(int newLane, int newLength) {
            lane = newLane;
            length = newLength;
            for (int i = 0; i < LONGEST_ROW; i++) {
                cells[i] = 0;
            }
        }

        void drop() {
            lane = NOTHING;
            length = 0;
        }

        boolean hasCell(int i) {
            return i >= 0 && i < length;
        }

        // The bound is length - i, not i + n: the sum of two great numbers wraps.
        boolean hasCells(int i, int n) {
            return i >= 0 && i <= length && n >= 0 && n <= length - i;
        }

        int at(int i) {
            return hasCell(i) ? cells[i] : 0;
        }

        void write(int i, int v) {
            if (hasCell(i)) {
                cells[i] = cutToLane(v);
            }
        }

        private int cutToLane(int v) {
            switch (lane) {
                case 0: return (byte) v;
                case 1: return (short) v;
                default: return v;
            }
        }

        int faultOfRow(int takenAs) {
            if (!hasRow()) {
                return NULL;
            }
            return lane == takenAs ? NO_FAULT : CAST;
        }

        int faultOfCells(int takenAs, int i, int n) {
            int found = faultOfRow(takenAs);
            if (found != NO_FAULT) {
                return found;
            }
            if (n < 0) {
                return SIZE;
            }
            return hasCells(i, n) ? NO_FAULT : INDEX;
        }
    }

    /** Where a text of a ride first goes wrong; places count from its own beginning. */
    private static final class RideText {
        static final int HEAD = 3, RIDER_CODES = 8;

        /** NONE, if the text is one of a ride. */
        static int firstFault(Sheet text, int i, int n) {
            int sections = sectionsTold(text, i, n);
            for (int place = 0; place < n; place++) {
                if (!goesOn(text, i, place, sections)) {
                    return place;
                }
            }
            int ofRiders = n - HEAD - sections;
            boolean whole = sections > 0 && ofRiders > 0 && ofRiders % RIDER_CODES == 0;
            return whole ? NONE : n;
        }

        static int sectionsTold(Sheet text, int i, int n) {
            int sections = 0;
            while (sections < MOST_SECTIONS && HEAD + sections < n
                    && isDigit(text.at(i + HEAD + sections), 0, STEEPEST)) {
                sections++;
            }
            return sections;
        }

        private static boolean goesOn(Sheet text, int i, int place, int sections) {
            int code = text.at(i + place);
            switch (place) {
                case 0: return code == 'u';
                case 1: return isDigit(code, 0, MOST_SEATS);
                case 2: return code == ',';
                default: break;
            }
            if (place < HEAD + sections) {
                return true;
            }
            int behind = place - HEAD - sections;
            if (sections == 0 || behind >= MOST_RIDERS * RIDER_CODES) {
                return false;
            }
            return riderGoesOn(text, i + place, behind % RIDER_CODES, sections);
        }

        private static boolean riderGoesOn(Sheet text, int at, int part, int sections) {
            int code = text.at(at);
            switch (part) {
                case 0: return code == ';';
                case 1: return kindOf(code) != NONE;
                case 2: return isDigit(code, 0, sections - 1);
                case 3: return isDigit(code, digit(text.at(at - 1)) + 1, sections);
                case 4: return isDigit(code, 0, OLDEST_ON / 10);
                default: return isDigit(code, 0, 9);
            }
        }

        static int kindOf(int code) {
            switch (code) {
                case 'r': return PLAIN;
                case 'l': return LAD;
                case 'e': return ELDER;
                default: return NONE;
            }
        }

        static int digit(int code) {
            return code - '0';
        }

        private static boolean isDigit(int code, int least, int top) {
            return code >= '0' + least && code <= '0' + top;
        }
    }

    /** How many sit above on each section, told in four bits a section: four riders never fill them. */
    private static final class Load {
        private static final int BITS = 4, MASK = 15;

        static int of(int set) {
            int load = 0;
            for (int s = 0; s < MOST_SECTIONS; s++) {
                load |= (set >> s & 1) << BITS * s;
            }
            return load;
        }

        static int on(int load, int s) {
            return load >> BITS * s & MASK;
        }
    }

    private static final class Rider {
        int kind = PLAIN;
        int on = 0;
        int off = 0;
        int years = 0;
        int want = 0;

        /** The rider told by the eight codes from here on, which are known to be right. */
        void board(Sheet text, int from) {
            kind = RideText.kindOf(text.at(from + 1));
            on = RideText.digit(text.at(from + 2));
            off = RideText.digit(text.at(from + 3));
            years = twoDigits(text, from + 4);
            want = twoDigits(text, from + 6);
        }

        private static int twoDigits(Sheet text, int from) {
            return 10 * RideText.digit(text.at(from)) + RideText.digit(text.at(from + 1));
        }

        int own() {
            return (1 << off) - (1 << on);
        }

        boolean owns(int set) {
            return (set & ~own()) == 0;
        }

        int yearsAbove(int steep) {
            switch (kind) {
                case PLAIN: return steep;
                case LAD: return steep + 1;
                default: return (steep + 1) / 2;
            }
        }
    }

    /** Seats, sections and riders as they are now; with no riders there is no ride. */
    private static final class Ride {
        private static final int PAIR_BITS = 5, PAIR_MASK = 31;

        final int[] steep = new int[MOST_SECTIONS];
        final Rider[] riders = new Rider[MOST_RIDERS];
        private final int[] rightSets = new int[MOST_RIDERS];
        int seats = 0;
        int sections = 0;
        int count = 0;

        Ride() {
            for (int a = 0; a < MOST_RIDERS; a++) {
                riders[a] = new Rider();
            }
        }

        boolean isTold() {
            return count > 0;
        }

        boolean hasRider(int a) {
            return a >= 0 && a < count;
        }

        boolean hasSection(int s) {
            return s >= 0 && s < sections;
        }

        /** Takes a text that has no fault, so that sections and riders stay within their rows. */
        void board(Sheet text, int i, int n) {
            seats = RideText.digit(text.at(i + 1));
            sections = RideText.sectionsTold(text, i, n);
            for (int s = 0; s < sections; s++) {
                steep[s] = RideText.digit(text.at(i + RideText.HEAD + s));
            }
            int from = RideText.HEAD + sections;
            count = Math.min(MOST_RIDERS, (n - from) / RideText.RIDER_CODES);
            for (int a = 0; a < count; a++) {
                riders[a].board(text, i + from + RideText.RIDER_CODES * a);
            }
        }

        int yearsOff(Rider who, int set) {
            int years = who.years;
            for (int s = 0; s < sections; s++) {
                if ((set >> s & 1) == 1) {
                    years += who.yearsAbove(steep[s]);
                }
            }
            return years;
        }

        boolean isRight(Rider who, int set) {
            return yearsOff(who, set) == who.want;
        }

        boolean canSitAlone(Rider who, int set) {
            return who.owns(set) && (set == 0 || seats > 0);
        }

        /** The first section with too few seats, or NONE. */
        int firstOver(int load) {
            for (int s = 0; s < sections; s++) {
                if (Load.on(load, s) > seats) {
                    return s;
                }
            }
            return NONE;
        }

        /** The two sets by which both get off equally old, as one number, or NONE. */
        int agreeing(Rider one, Rider two) {
            int best = NONE;
            int fewest = 2 * MOST_SECTIONS + 1;
            for (int first = 0; first <= one.own(); first++) {
                for (int other = 0; other <= two.own(); other++) {
                    int sum = Integer.bitCount(first) + Integer.bitCount(other);
                    if (sum < fewest && one.owns(first) && two.owns(other) && bothAgree(one, first, two, other)) {
                        fewest = sum;
                        best = first << PAIR_BITS | other;
                    }
                }
            }
            return best;
        }

        private boolean bothAgree(Rider one, int first, Rider two, int other) {
            return yearsOff(one, first) == yearsOff(two, other)
                && firstOver(Load.of(first) + Load.of(other)) == NONE;
        }

        static int firstOf(int pair) {
            return pair >> PAIR_BITS;
        }

        static int otherOf(int pair) {
            return pair & PAIR_MASK;
        }

        int mostRight() {
            for (int a = 0; a < count; a++) {
                rightSets[a] = setsToBeRight(riders[a]);
            }
            int best = 0;
            for (int who = 1; who < 1 << count; who++) {
                if (Integer.bitCount(who) > Integer.bitCount(best) && canAllBeRight(who, 0, 0)) {
                    best = who;
                }
            }
            return best;
        }

        /** The sets themselves as bits, so that they are weighed once and not at every turn of the search. */
        private int setsToBeRight(Rider who) {
            int found = 0;
            for (int set = 0; set <= who.own(); set++) {
                if (who.owns(set) && isRight(who, set)) {
                    found |= 1 << set;
                }
            }
            return found;
        }

        /** Whether all of these from rider a on can be right beside those who sit already; a is the depth. */
        private boolean canAllBeRight(int who, int a, int load) {
            if (a >= count) {
                return true;
            }
            if ((who >> a & 1) == 0) {
                return canAllBeRight(who, a + 1, load);
            }
            for (int set = 0; set <= riders[a].own(); set++) {
                if ((rightSets[a] >> set & 1) == 1) {
                    int next = load + Load.of(set);
                    if (firstOver(next) == NONE && canAllBeRight(who, a + 1, next)) {
                        return true;
                    }
                }
            }
            return false;
        }
    }

    /** What was read of those who got off. */
    private static final class Readings {
        private final int[] who = new int[MOST_READINGS];
        private final int[] sets = new int[MOST_READINGS];
        private final int[] years = new int[MOST_READINGS];
        int count = 0;

        void append(int a, int set, int v) {
            if (count < MOST_READINGS) {
                who[count] = a;
                sets[count] = set;
                years[count] = v;
                count++;
            }
        }

        boolean allHold(Ride ride) {
            for (int k = 0; k < count; k++) {
                if (ride.yearsOff(ride.riders[who[k]], sets[k]) != years[k]) {
                    return false;
                }
            }
            return true;
        }
    }
}
