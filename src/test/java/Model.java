import java.math.BigInteger;
import java.util.ArrayList;
import java.util.Arrays;
import java.util.Collections;
import java.util.List;
import java.util.TreeSet;
import java.util.function.BooleanSupplier;
import java.util.regex.Matcher;
import java.util.regex.Pattern;

/**
 * The document once more, written for plainness alone and by other means than the class (patterns for texts,
 * lists of all sittings for searches), so that both seldom go wrong in the same way.
 */
final class Model {
    static final int UNKNOWN = -1, OUTSIDE = -2, STATE = -3, FULL = -4, NONE = -9;
    static final long LOST = Long.MIN_VALUE;

    private static final Pattern[] TEXTS = new Pattern[6];

    static {
        for (int sections = 1; sections <= 5; sections++) {
            List<String> stops = new ArrayList<>();
            for (int on = 0; on < sections; on++) {
                stops.add(on + "[" + (on + 1) + "-" + sections + "]");
            }
            TEXTS[sections] = Pattern.compile("u([0-3]),([0-3]{" + sections + "})((?:;[rle](?:"
                + String.join("|", stops) + ")[0-7][0-9][0-9][0-9]){1,4})");
        }
    }

    private static final class Person {
        int kind, on, off, age, want;
    }

    private int seats = 0;
    private int[] slope = {};
    private final List<Person> people = new ArrayList<>();
    private final List<int[]> readings = new ArrayList<>();
    private final int[][] sheets = new int[4][];
    private final int[] lanes = new int[4];
    private int trace = 0;
    private int fault = 0;

    // ---- 1

    int ride(int k, int lane, int i, int n) {
        fault = 0;
        if (k < 0 || k > 3) return UNKNOWN;
        if (lane < 0 || lane > 2) return OUTSIDE;
        if (cellsFault(k, lane, i, n)) return -10 - fault;
        StringBuilder text = new StringBuilder();
        for (int p = 0; p < n; p++) {
            int code = sheets[k][i + p];
            text.append(code >= 0 && code < 128 ? (char) code : '?');
        }
        for (int p = 1; p <= n; p++) {
            if (!canGoOn(text.substring(0, p))) return -100 - (p - 1);
        }
        for (int sections = 1; sections <= 5; sections++) {
            Matcher m = TEXTS[sections].matcher(text);
            if (m.matches()) return take(m);
        }
        return -100 - n;
    }

    private static boolean canGoOn(String begun) {
        for (int sections = 1; sections <= 5; sections++) {
            Matcher m = TEXTS[sections].matcher(begun);
            if (m.matches() || m.hitEnd()) return true;
        }
        return false;
    }

    private int take(Matcher m) {
        seats = Integer.parseInt(m.group(1));
        slope = m.group(2).chars().map(c -> c - '0').toArray();
        people.clear();
        readings.clear();
        for (String told : m.group(3).substring(1).split(";")) {
            Person p = new Person();
            p.kind = "rle".indexOf(told.charAt(0));
            p.on = told.charAt(1) - '0';
            p.off = told.charAt(2) - '0';
            p.age = Integer.parseInt(told.substring(3, 5));
            p.want = Integer.parseInt(told.substring(5));
            people.add(p);
        }
        return people.size();
    }

    private boolean noRider(int a) {
        return a < 0 || a >= people.size();
    }

    private boolean noSection(int s) {
        return s < 0 || s >= slope.length;
    }

    int ofRider(int a, int what) {
        if (noRider(a)) return UNKNOWN;
        if (what < 0 || what > 5) return OUTSIDE;
        Person p = people.get(a);
        int set = 0;
        for (int s = p.on; s < p.off; s++) set += 1 << s;
        return new int[] {p.kind, p.on, p.off, p.age, p.want, set}[what];
    }

    int slope(int s) {
        return noSection(s) ? UNKNOWN : slope[s];
    }

    int tilt(int s, int v) {
        if (noSection(s)) return UNKNOWN;
        if (v < 0 || v > 3) return OUTSIDE;
        int was = slope[s];
        slope[s] = v;
        return was;
    }

    int seat(int v) {
        if (v < 0 || v > 3) return OUTSIDE;
        if (people.isEmpty()) return STATE;
        int was = seats;
        seats = v;
        return was;
    }

    int wish(int a, int v) {
        if (noRider(a)) return UNKNOWN;
        if (v < 0 || v > 99) return OUTSIDE;
        int was = people.get(a).want;
        people.get(a).want = v;
        return was;
    }

    int gain(int a, int s) {
        if (noRider(a) || noSection(s)) return UNKNOWN;
        int kind = people.get(a).kind;
        if (kind == 0) return slope[s];
        if (kind == 1) return slope[s] + 1;
        return slope[s] == 0 ? 0 : slope[s] == 3 ? 2 : 1;
    }

    // ---- 2

    private boolean noSet(int a, int set) {
        for (int bit = 0; bit < 32; bit++) {
            boolean theirs = bit >= people.get(a).on && bit < people.get(a).off;
            if ((set & 1 << bit) != 0 && !theirs) return true;
        }
        return false;
    }

    private List<Integer> setsOf(int a) {
        List<Integer> sets = new ArrayList<>();
        for (int set = 0; set < 32; set++) {
            if (!noSet(a, set)) sets.add(set);
        }
        return sets;
    }

    private int off(int a, int set) {
        int years = people.get(a).age;
        for (int s = 0; s < slope.length; s++) {
            if ((set & 1 << s) != 0) years += gain(a, s);
        }
        return years;
    }

    private int above(int s, int... sets) {
        return (int) Arrays.stream(sets).filter(set -> (set & 1 << s) != 0).count();
    }

    private int firstWrong(int... sets) {
        for (int s = 0; s < slope.length; s++) {
            if (above(s, sets) > seats) return s;
        }
        return NONE;
    }

    int age(int a, int set) {
        if (noRider(a)) return UNKNOWN;
        return noSet(a, set) ? OUTSIDE : off(a, set);
    }

    int sit(int k, int lane, int i, int n, int what) {
        fault = 0;
        if (k < 0 || k > 3) return UNKNOWN;
        if (lane < 0 || lane > 2) return OUTSIDE;
        if (!Arrays.asList(0, 1, 2, 3, 10, 11, 12, 13, 14, 20, 21, 22, 23).contains(what)) return OUTSIDE;
        if (people.isEmpty()) return STATE;
        if (cellsFault(k, lane, i, n)) return -10 - fault;
        if (n != people.size()) return OUTSIDE;
        int[] sets = Arrays.copyOfRange(sheets[k], i, i + n);
        for (int a = 0; a < n; a++) {
            if (noSet(a, sets[a])) return OUTSIDE;
        }
        int wrong = firstWrong(sets);
        if (what == 1) return wrong;
        if (wrong != NONE) return -100 - wrong;
        if (what == 0) return Integer.bitCount(rightOf(sets));
        if (what == 2) return rightOf(sets);
        if (what == 3) {
            List<Integer> ages = new ArrayList<>();
            for (int a = 0; a < n; a++) ages.add(off(a, sets[a]));
            return ages.indexOf(Collections.max(ages));
        }
        if (what < 20) return noSection(what - 10) ? NONE : above(what - 10, sets);
        return noRider(what - 20) ? NONE : off(what - 20, sets[what - 20]);
    }

    // ---- 3

    private List<Integer> aloneSets(int a) {
        return seats == 0 ? Arrays.asList(0) : setsOf(a);
    }

    int way(int a, int v) {
        if (noRider(a)) return UNKNOWN;
        if (v < 0 || v > 199) return OUTSIDE;
        for (int size = 0; size <= 5; size++) {
            for (int set : aloneSets(a)) {
                if (Integer.bitCount(set) == size && off(a, set) == v) return set;
            }
        }
        return NONE;
    }

    int spread(int a) {
        if (noRider(a)) return UNKNOWN;
        TreeSet<Integer> ages = new TreeSet<>();
        for (int set : aloneSets(a)) ages.add(off(a, set));
        return ages.size();
    }

    int agree(int a, int b, int what) {
        if (noRider(a) || noRider(b) || a == b) return UNKNOWN;
        if (what < 0 || what > 2) return OUTSIDE;
        for (int size = 0; size <= 10; size++) {
            for (int one : setsOf(a)) {
                for (int two : setsOf(b)) {
                    if (Integer.bitCount(one) + Integer.bitCount(two) == size && off(a, one) == off(b, two)
                            && firstWrong(one, two) == NONE) {
                        return what == 0 ? size : what == 1 ? one : two;
                    }
                }
            }
        }
        return NONE;
    }

    /** Who is right, over every sitting of all whom the seats do for: nobody sits above who is not in the set. */
    int most() {
        if (people.isEmpty()) return STATE;
        int best = 0;
        List<int[]> sittings = new ArrayList<>();
        sittings.add(new int[0]);
        for (int a = 0; a < people.size(); a++) {
            List<int[]> longer = new ArrayList<>();
            TreeSet<String> seen = new TreeSet<>();
            for (int[] sets : sittings) {
                for (int set : setsOf(a)) {
                    if (set != 0 && off(a, set) != people.get(a).want) continue;
                    int[] next = Arrays.copyOf(sets, a + 1);
                    next[a] = set;
                    if (firstWrong(next) == NONE && seen.add(shape(next))) longer.add(next);
                }
            }
            sittings = longer;
        }
        for (int[] sets : sittings) {
            int right = rightOf(sets);
            int more = Integer.bitCount(right) - Integer.bitCount(best);
            if (more > 0 || more == 0 && right < best) best = right;
        }
        return best;
    }

    private int rightOf(int[] sets) {
        int right = 0;
        for (int a = 0; a < sets.length; a++) {
            if (off(a, sets[a]) == people.get(a).want) right |= 1 << a;
        }
        return right;
    }

    /** Sittings with the same riders right and the same seats taken go on alike. */
    private String shape(int[] sets) {
        StringBuilder shape = new StringBuilder().append(rightOf(sets)).append(':');
        for (int s = 0; s < slope.length; s++) shape.append(above(s, sets));
        return shape.toString();
    }

    // ---- 4

    int reading(int a, int set, int v) {
        if (noRider(a)) return UNKNOWN;
        if (noSet(a, set) || v < 0 || v > 199) return OUTSIDE;
        if (readings.size() == 8) return FULL;
        readings.add(new int[] {a, set, v});
        return readings.size() - 1;
    }

    int back(int k) {
        if (k < 0 || k > readings.size()) return OUTSIDE;
        for (int n = 0; n < k; n++) readings.remove(readings.size() - 1);
        return readings.size();
    }

    private boolean allSo() {
        return readings.stream().allMatch(r -> off(r[0], r[1]) == r[2]);
    }

    int slopes(int s) {
        if (noSection(s)) return UNKNOWN;
        int was = slope[s], set = 0;
        for (slope[s] = 0; slope[s] <= 3; slope[s]++) set |= allSo() ? 1 << slope[s] : 0;
        slope[s] = was;
        return set;
    }

    int kinds(int a) {
        if (noRider(a)) return UNKNOWN;
        Person p = people.get(a);
        int was = p.kind, set = 0;
        for (p.kind = 0; p.kind <= 2; p.kind++) set |= allSo() ? 1 << p.kind : 0;
        p.kind = was;
        return set;
    }

    int began(int a, int what) {
        if (noRider(a)) return UNKNOWN;
        if (what != 0 && what != 1) return OUTSIDE;
        Person p = people.get(a);
        TreeSet<Integer> ages = new TreeSet<>();
        int was = p.age;
        for (p.age = 0; p.age < 80; p.age++) {
            if (allSo()) ages.add(p.age);
        }
        p.age = was;
        return what == 0 ? ages.size() : ages.isEmpty() ? NONE : ages.first();
    }

    long odds(int a, int v, int which) {
        if (noRider(a) || v < 0 || v > 199 || which < 0 || which > 1) return LOST;
        long all = setsOf(a).size();
        long so = setsOf(a).stream().filter(set -> off(a, set) >= v).count();
        long common = BigInteger.valueOf(so).gcd(BigInteger.valueOf(all)).longValue();
        return (which == 0 ? so : all) / common;
    }

    // ---- 5

    private boolean faulty(int number, BooleanSupplier so) {
        if (fault == 0 && so.getAsBoolean()) fault = number;
        return fault != 0;
    }

    private boolean beyond(int k, int i, int n) {
        return i < 0 || n < 0 || (long) i + n > sheets[k].length;
    }

    private boolean cellsFault(int k, int lane, int i, int n) {
        return faulty(2, () -> sheets[k] != null && lanes[k] != lane) || faulty(1, () -> sheets[k] == null)
            || faulty(4, () -> n < 0) || faulty(3, () -> beyond(k, i, n));
    }

    int sheet(int k, int lane, int n) {
        fault = 0;
        if (k < 0 || k > 3) return UNKNOWN;
        if (lane < 0 || lane > 2 || n > 60) return OUTSIDE;
        if (faulty(4, () -> n < 0)) return -10 - fault;
        sheets[k] = new int[n];
        lanes[k] = lane;
        return 1;
    }

    int lose(int k) {
        if (k < 0 || k > 3) return UNKNOWN;
        int had = sheets[k] == null ? 0 : 1;
        sheets[k] = null;
        return had;
    }

    int put(int k, int i, int v) {
        fault = 0;
        if (k < 0 || k > 3) return UNKNOWN;
        if (faulty(1, () -> sheets[k] == null) || faulty(3, () -> beyond(k, i, 1))) return -10 - fault;
        int bits = lanes[k] == 0 ? 24 : lanes[k] == 1 ? 16 : 0;
        sheets[k][i] = v << bits >> bits;
        return 1;
    }

    long cell(int k, int i, int lane) {
        fault = 0;
        if (k < 0 || k > 3 || lane < 0 || lane > 2) return LOST;
        return cellsFault(k, lane, i, 1) ? LOST : sheets[k][i];
    }

    int copy(int k, int i, int other, int j, int n) {
        fault = 0;
        if (k < 0 || k > 3 || other < 0 || other > 3) return UNKNOWN;
        if (faulty(1, () -> sheets[k] == null) || faulty(1, () -> sheets[other] == null)
                || faulty(2, () -> lanes[k] != lanes[other])
                || faulty(3, () -> beyond(k, i, n) || beyond(other, j, n))) {
            return -10 - fault;
        }
        int[] were = sheets[k].clone();
        for (int p = 0; p < n; p++) sheets[other][j + p] = were[i + p];
        return n;
    }

    int tell(int a) {
        if (noRider(a)) return UNKNOWN;
        int[][] bodies = {{1}, {2, 1}, {3, 2, 1, 1}};
        Person p = people.get(a);
        for (int body : bodies[p.kind]) trace = trace * 31 + body;
        return new int[] {p.age, p.age + 100, p.age * 2 + 100}[p.kind];
    }

    int ring(int a) {
        if (noRider(a)) return UNKNOWN;
        boolean elder = people.get(a).kind == 2;
        trace = trace * 31 + (elder ? 5 : 4);
        return elder ? 60 : a;
    }

    int as(int a, int kind) {
        fault = 0;
        if (noRider(a)) return UNKNOWN;
        if (kind < 0 || kind > 2) return OUTSIDE;
        return faulty(2, () -> !Arrays.asList(0, 1, 2).subList(0, people.get(a).kind + 1).contains(kind)) ? -12 : 1;
    }

    int trace() {
        return trace;
    }

    int fault() {
        return fault;
    }

    int many(int what) {
        if (what < 0 || what > 3) return OUTSIDE;
        return new int[] {people.size(), slope.length, seats, readings.size()}[what];
    }
}
