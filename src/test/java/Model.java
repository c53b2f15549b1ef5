import java.math.BigInteger;
import java.util.ArrayList;
import java.util.Arrays;
import java.util.Collections;
import java.util.Comparator;
import java.util.HashMap;
import java.util.List;
import java.util.Map;
import java.util.TreeMap;
import java.util.regex.Matcher;
import java.util.regex.Pattern;

/** The document once more, written in another way: maps, sorting, big numbers, no speed. */
final class Model {
    record Athlete(int kind, int figure, int stride, int grow, int slip, int pace, int look, int mark) {
        Athlete look(int v) { return new Athlete(kind, figure, stride, grow, slip, pace, v, mark); }
        Athlete mark(int v) { return new Athlete(kind, figure, stride, grow, slip, pace, look, v); }
        Athlete slip(int v) { return new Athlete(kind, figure, stride, grow, v, pace, look, mark); }
        Athlete grow(int v) { return new Athlete(kind, figure, stride, v, slip, pace, look, mark); }
        Athlete pace(int v) { return new Athlete(kind, figure, stride, grow, slip, v, look, mark); }
    }

    /** told: a LENGTH, -9, -8; clean: the LENGTH it would have had with 0 inches behind. */
    record Try(int who, int b, int told, int clean) { }

    record State(int strides, int wind, int goOn, List<Athlete> all, List<Try> tries) {
        State strides(int v) { return new State(v, wind, goOn, all, tries); }
        State wind(int v) { return new State(strides, v, goOn, all, tries); }
        State goOn(int v) { return new State(strides, wind, v, all, tries); }
        State with(int j, Athlete a) {
            List<Athlete> l = new ArrayList<>(all);
            if (j == l.size()) l.add(a); else l.set(j, a);
            return new State(strides, wind, goOn, l, tries);
        }
        State tried(Try t) {
            List<Try> l = new ArrayList<>(tries);
            l.add(t);
            return new State(strides, wind, goOn, all, l);
        }
        State untried() {
            return new State(strides, wind, goOn, all, new ArrayList<>(tries.subList(0, tries.size() - 1)));
        }
        State tries(int what, int b) {
            int who = turnIn(this);
            int clean = lengthOf(all.get(who), 0, 0, wind);
            if (what != 0) return tried(new Try(who, 0, what, clean));
            return tried(new Try(who, b, lengthOf(all.get(who), b, 0, wind), clean));
        }
    }

    private State s = new State(10, 0, 2, new ArrayList<>(), new ArrayList<>());
    private State picture = null;
    private StringBuilder text = new StringBuilder();
    private final List<Integer> row = new ArrayList<>();
    private final int[] no = new int[20];

    // ---- kinds ----

    static int aimOf(Athlete a) {
        int safe = a.figure + 2;
        return new int[] {0, safe, 1, safe / 2, 1, safe / 2 + 1}[a.kind];
    }

    static int part(int x, int k) {
        int p = Math.abs(x) * k / 10;
        return x < 0 ? -p : p;
    }

    static int strideOf(Athlete a, int k, int wind) {
        int plain = a.stride + part(a.grow, k);
        int w = part(wind, k);
        return switch (a.kind) {
            case 2 -> plain + w + k % 2;
            case 4 -> plain + w + k % 2 + w;
            case 5 -> plain;
            default -> plain + w;
        };
    }

    static int path(Athlete a, int strides, int wind) {
        int sum = 0;
        for (int k = 0; k < strides; k++) sum += strideOf(a, k, wind);
        return sum;
    }

    static int lengthOf(Athlete a, int b, int l, int wind) {
        int jumper = Math.max(4 * a.pace + 2 * wind + a.figure - b - 2 * l, 0);
        int safe = Math.max(jumper - 3, 0);
        int bold = jumper + 3;
        return new int[] {jumper, safe, bold, safe, Math.max(bold + wind, 0), safe + 1}[a.kind];
    }

    // ---- chances ----

    record End(int b, int loss) { }

    static Map<End, BigInteger> ends(Athlete a, int strides, int place) {
        Map<End, BigInteger> ways = new HashMap<>();
        ways.put(new End(place, 0), BigInteger.ONE);
        for (int left = strides; left >= 1; left--) {
            Map<End, BigInteger> next = new HashMap<>();
            for (Map.Entry<End, BigInteger> e : ways.entrySet()) {
                int b = e.getKey().b;
                int loss = e.getKey().loss;
                if (a.look == left) {
                    int d = b - aimOf(a);
                    int half = Math.abs(d) / 2;
                    b = d < 0 ? b + half : b - half;
                    loss = half / 4;
                }
                next.merge(new End(b - a.slip, loss), e.getValue(), BigInteger::add);
                next.merge(new End(b, loss), e.getValue().add(e.getValue()), BigInteger::add);
                next.merge(new End(b + a.slip, loss), e.getValue(), BigInteger::add);
            }
            ways = next;
        }
        return ways;
    }

    static TreeMap<Integer, BigInteger> lengths(Athlete a, int strides, int wind, int place) {
        TreeMap<Integer, BigInteger> by = new TreeMap<>();
        for (Map.Entry<End, BigInteger> e : ends(a, strides, place).entrySet()) {
            int b = e.getKey().b;
            by.merge(b < 0 ? 0 : lengthOf(a, b, e.getKey().loss, wind), e.getValue(), BigInteger::add);
        }
        return by;
    }

    static BigInteger all(int strides) { return BigInteger.valueOf(4).pow(strides); }

    static BigInteger meanOf(Athlete a, int strides, int wind, int place) {
        BigInteger sum = BigInteger.ZERO;
        for (Map.Entry<Integer, BigInteger> e : lengths(a, strides, wind, place).entrySet())
            sum = sum.add(e.getValue().multiply(BigInteger.valueOf(e.getKey())));
        return sum;
    }

    static BigInteger pastOf(Athlete a, int strides, int wind, int place, int v) {
        BigInteger sum = BigInteger.ZERO;
        for (BigInteger w : lengths(a, strides, wind, place).tailMap(v, false).values()) sum = sum.add(w);
        return sum;
    }

    static int tenThousandths(BigInteger w, int strides) {
        return w.multiply(BigInteger.valueOf(10000)).divide(all(strides)).intValue();
    }

    static long told(BigInteger above, BigInteger below, int part) {
        BigInteger g = above.gcd(below);
        return (part == 0 ? above.divide(g) : below.divide(g)).longValueExact();
    }

    Athlete at(int j) { return s.all.get(j); }

    int placeIn(int j) { return at(j).mark - path(at(j), s.strides, s.wind); }

    // ---- ranks ----

    static List<Integer> rank(int size, List<int[]> tries) {
        List<List<Integer>> own = new ArrayList<>();
        for (int j = 0; j < size; j++) own.add(new ArrayList<>(List.of(0, 0)));
        for (int[] t : tries) own.get(t[0]).add(t[1]);
        for (List<Integer> l : own) l.sort(Comparator.reverseOrder());
        List<Integer> order = new ArrayList<>();
        for (int j = 0; j < size; j++) order.add(j);
        order.sort((x, y) -> {
            int c = own.get(y).get(0) - own.get(x).get(0);
            if (c == 0) c = own.get(y).get(1) - own.get(x).get(1);
            return c == 0 ? x - y : c;
        });
        return order;
    }

    static List<int[]> counted(List<Try> tries, int law) {
        List<int[]> l = new ArrayList<>();
        for (Try t : tries) {
            if (t.told >= 0) l.add(new int[] {t.who, law == 1 ? t.told + t.b : t.told});
            else if (t.told == -9 && law == 2) l.add(new int[] {t.who, t.clean});
        }
        return l;
    }

    static List<Integer> ranking(State s, int law) { return rank(s.all.size(), counted(s.tries, law)); }

    static int first(State s) { return s.all.isEmpty() ? -9 : ranking(s, 0).get(0); }

    static int[] roundAndTurn(State s) {
        List<int[]> plan = new ArrayList<>();
        int n = s.all.size();
        for (int r = 0; r < 3; r++) for (int j = 0; j < n; j++) plan.add(new int[] {r, j});
        if (s.tries.size() >= 3 * n) {
            List<Integer> order = rank(n, counted(s.tries.subList(0, 3 * n), 0));
            List<Integer> on = new ArrayList<>(order.subList(0, Math.min(s.goOn, n)));
            Collections.reverse(on);
            for (int r = 3; r < 6; r++) for (int j : on) plan.add(new int[] {r, j});
        }
        return s.tries.size() < plan.size() ? plan.get(s.tries.size()) : new int[] {6, -9};
    }

    static int turnIn(State s) { return roundAndTurn(s)[1]; }

    // ---- refusals ----

    private int refuse(int number) { no[10 - number]++; return number; }

    private Integer check(boolean ok, int number) { return ok ? null : number; }

    private int firstOf(Integer... numbers) {
        for (Integer n : numbers) if (n != null) return refuse(n);
        return 0;
    }

    private Integer body(int j) { return check(j >= 0 && j < s.all.size(), -1); }
    private Integer two(int a, int b) { return body(a) != null || body(b) != null || a == b ? -1 : null; }
    private Integer what(int w, int most) { return check(w >= 0 && w <= most, -2); }
    private Integer state(boolean ok) { return check(ok, -3); }
    private Integer low(int v, int least) { return check(v >= least, -4); }
    private Integer high(int v, int most) { return check(v <= most, -6); }
    private static final long BIG = 4000000000000000000L;

    // ---- for tests that look for telling numbers ----

    int likely(int j, int b, int l) {
        return body(j) == null ? lengthOf(at(j), b, l, s.wind) : 100;
    }

    int markFor(int j) {
        return body(j) == null ? path(at(j), s.strides, s.wind) : 500;
    }

    // ---- the face ----

    public int feed(int letter) {
        int r = firstOf(low(letter, 0), high(letter, 255), high(text.length(), 95));
        if (r != 0) return r;
        text.append((char) letter);
        return text.length();
    }

    private static final String STATEMENT = "n\\d{2};|w[+-]\\d;|g\\d;|j\\d{13};|t\\d{2};|f;|p;";
    private static final List<String> SHAPES = List.of("ndd;", "wsd;", "gd;", "jddddddddddddd;", "tdd;", "f;", "p;");

    private static boolean begins(String shape, String part) {
        if (part.length() > shape.length()) return false;
        for (int i = 0; i < part.length(); i++) {
            char c = part.charAt(i);
            char k = shape.charAt(i);
            boolean fits = k == 'd' ? c >= '0' && c <= '9' : i > 0 && k == 's' ? c == '+' || c == '-' : c == k;
            if (!fits) return false;
        }
        return true;
    }

    public int ground() {
        String t = text.toString();
        text = new StringBuilder();
        Matcher m = Pattern.compile(STATEMENT).matcher(t);
        List<Integer> starts = new ArrayList<>();
        int p = 0;
        while (p < t.length() && m.region(p, t.length()).lookingAt()) {
            starts.add(p);
            p = m.end();
        }
        if (p < t.length() || starts.isEmpty()) {
            int q = p;
            while (q < t.length()) {
                String part = t.substring(p, q + 1);
                if (SHAPES.stream().noneMatch(shape -> begins(shape, part))) break;
                q++;
            }
            return -1000 - q;
        }
        State trial = s;
        for (int from : starts) {
            trial = behind(trial, t.substring(from, t.indexOf(';', from)));
            if (trial == null) return -2000 - from;
        }
        s = trial;
        return starts.size();
    }

    private static State behind(State s, String st) {
        boolean free = s.tries.isEmpty();
        switch (st.charAt(0)) {
            case 'w': return s.wind(Integer.parseInt(st.substring(1)));
            case 'n': {
                int v = Integer.parseInt(st.substring(1));
                return free && v >= 4 && v <= 20 ? s.strides(v) : null;
            }
            case 'g': {
                int v = Integer.parseInt(st.substring(1));
                return free && v >= 1 && v <= 4 ? s.goOn(v) : null;
            }
            case 'j': {
                int[] v = new int[8];
                int[] ends = {2, 3, 5, 6, 7, 9, 10, 14};
                for (int i = 0, from = 1; i < 8; from = ends[i], i++) v[i] = Integer.parseInt(st.substring(from, ends[i]));
                boolean fits = v[0] <= 5 && v[2] >= 40 && v[4] <= 6 && v[5] >= 20 && v[6] <= 4 && v[7] <= 2400;
                if (!free || s.all.size() == 4 || !fits) return null;
                return s.with(s.all.size(), new Athlete(v[0], v[1], v[2], v[3], v[4], v[5], v[6], v[7]));
            }
            default: {
                if (turnIn(s) == -9) return null;
                char c = st.charAt(0);
                return c == 't' ? s.tries(0, Integer.parseInt(st.substring(1))) : s.tries(c == 'f' ? -9 : -8, 0);
            }
        }
    }

    public int jumper(int j, int what) {
        int r = firstOf(body(j), what(what, 11));
        if (r != 0) return r;
        Athlete a = at(j);
        List<Integer> own = new ArrayList<>(List.of(0, 0));
        int tries = 0;
        for (Try t : s.tries) if (t.who == j) { tries++; own.add(Math.max(0, t.told)); }
        own.sort(Comparator.reverseOrder());
        return new int[] {a.kind, a.figure, a.stride, a.grow, a.slip, a.pace, a.look, a.mark, aimOf(a),
            own.get(0), own.get(1), tries}[what];
    }

    public int mark(int j, int v) {
        int r = firstOf(body(j), low(v, 0), high(v, 2400));
        if (r != 0) return r;
        int was = at(j).mark;
        s = s.with(j, at(j).mark(v));
        return was;
    }

    public int look(int j, int v) {
        int r = firstOf(body(j), low(v, 0), high(v, 4));
        if (r != 0) return r;
        int was = at(j).look;
        s = s.with(j, at(j).look(v));
        return was;
    }

    public int set(int what, int v) {
        int r = firstOf(what(what, 1), low(v, what == 0 ? 4 : 1), high(v, what == 0 ? 20 : 4), state(s.tries.isEmpty()));
        if (r != 0) return r;
        int was = what == 0 ? s.strides : s.goOn;
        s = what == 0 ? s.strides(v) : s.goOn(v);
        return was;
    }

    public int wind(int v) {
        int r = firstOf(low(v, -9), high(v, 9));
        if (r != 0) return 1000000000 - r;
        int was = s.wind;
        s = s.wind(v);
        return was;
    }

    public int stride(int j, int k) {
        int r = firstOf(body(j), low(k, 0), high(k, s.strides - 1));
        return r != 0 ? r : strideOf(at(j), k, s.wind);
    }

    public int place(int j) {
        int r = firstOf(body(j));
        return r != 0 ? 1000000000 - r : placeIn(j);
    }

    public int length(int j, int b, int l) {
        int r = firstOf(body(j), low(b, 0), low(l, 0), high(b, 300), high(l, 99));
        return r != 0 ? r : lengthOf(at(j), b, l, s.wind);
    }

    public long off(int j, int b, int part) {
        int r = firstOf(body(j), low(b, -300), high(b, 300), what(part, 1));
        if (r != 0) return BIG - r;
        BigInteger sum = BigInteger.ZERO;
        for (Map.Entry<End, BigInteger> e : ends(at(j), s.strides, placeIn(j)).entrySet())
            if (e.getKey().b == b) sum = sum.add(e.getValue());
        return told(sum, all(s.strides), part);
    }

    public long mean(int j, int what, int part) {
        int r = firstOf(body(j), what(what, 1), what(part, 1));
        if (r != 0) return BIG - r;
        if (what == 1) return told(meanOf(at(j), s.strides, s.wind, placeIn(j)), all(s.strides), part);
        BigInteger sum = BigInteger.ZERO;
        for (Map.Entry<End, BigInteger> e : ends(at(j), s.strides, placeIn(j)).entrySet())
            if (e.getKey().b < 0) sum = sum.add(e.getValue());
        return told(sum, all(s.strides), part);
    }

    public long past(int j, int v, int part) {
        int r = firstOf(body(j), low(v, 0), high(v, 999), what(part, 1));
        if (r != 0) return BIG - r;
        return told(pastOf(at(j), s.strides, s.wind, placeIn(j), v), all(s.strides), part);
    }

    /** The first of the greatest. */
    private static int best(List<BigInteger> values) { return values.indexOf(Collections.max(values)); }

    public int bestLook(int j) {
        int r = firstOf(body(j));
        if (r != 0) return r;
        List<BigInteger> values = new ArrayList<>();
        for (int l = 0; l <= 4; l++) values.add(meanOf(at(j).look(l), s.strides, s.wind, placeIn(j)));
        return best(values);
    }

    public int bestMark(int j, int v) {
        int r = firstOf(body(j), low(v, -1), high(v, 999));
        if (r != 0) return r;
        List<Integer> marks = new ArrayList<>();
        List<BigInteger> values = new ArrayList<>();
        for (int d = -40; d <= 40; d++) {
            int mark = Math.max(0, Math.min(2400, at(j).mark + d));
            int place = mark - path(at(j), s.strides, s.wind);
            marks.add(mark);
            values.add(v == -1 ? meanOf(at(j), s.strides, s.wind, place) : pastOf(at(j), s.strides, s.wind, place, v));
        }
        return marks.get(best(values));
    }

    public int back(int j, int w) {
        int r = firstOf(body(j), low(w, -9), high(w, 9));
        return r != 0 ? 1000000000 - r : path(at(j), s.strides, w) - path(at(j), s.strides, s.wind);
    }

    public int turn() { return turnIn(s); }

    public int jump(int j, int b) {
        int r = firstOf(body(j), state(turnIn(s) == j), low(b, 0), high(b, 300));
        if (r != 0) return r;
        s = s.tries(0, b);
        return s.tries.get(s.tries.size() - 1).told;
    }

    public int none(int j, int what) {
        int r = firstOf(body(j), what(what, 1), state(turnIn(s) == j));
        if (r != 0) return r;
        s = s.tries(what == 0 ? -9 : -8, 0);
        return jumper(j, 11);
    }

    public int undo() {
        int r = firstOf(state(!s.tries.isEmpty()));
        if (r != 0) return r;
        int who = s.tries.get(s.tries.size() - 1).who;
        s = s.untried();
        return who;
    }

    public int tried(int j, int k) {
        List<Integer> own = new ArrayList<>();
        for (Try t : s.tries) if (t.who == j) own.add(t.told);
        return k < 0 || k >= own.size() ? refuse(-1) : own.get(k);
    }

    private int least(int j, int places, List<int[]> others) {
        for (int l = 0; l < 1000; l++) {
            List<int[]> with = new ArrayList<>(others);
            with.add(new int[] {j, l});
            if (rank(s.all.size(), with).indexOf(j) < places) return l;
        }
        return -9;
    }

    public int needs(int j, int what) {
        int r = firstOf(body(j), what(what, 1));
        return r != 0 ? r : least(j, what == 0 ? 1 : s.goOn, counted(s.tries, 0));
    }

    public int ranks(int what) {
        int r = firstOf(what(what, 2));
        if (r != 0) return r;
        int sum = 0;
        int ten = 1;
        for (int j : ranking(s, what)) {
            sum += ten * j;
            ten *= 10;
        }
        return sum;
    }

    public int leads() { return first(s); }

    public int goOn() {
        int bits = 0;
        for (int j = 0; j < s.all.size(); j++) if (ranking(s, 0).indexOf(j) < s.goOn) bits += 1 << j;
        return bits;
    }

    public int aim(int j, int m, int v, int what) {
        int r = firstOf(body(j), low(m, 1), low(v, 0), high(m, 3), high(v, 999), what(what, 1));
        if (r != 0) return r;
        List<BigInteger> values = new ArrayList<>();
        for (int b = 0; b <= 20; b++) {
            int p = tenThousandths(pastOf(at(j), s.strides, s.wind, b, v), s.strides);
            int left = 10000;
            for (int i = 0; i < m; i++) left = left * (10000 - p) / 10000;
            values.add(BigInteger.valueOf(10000 - left));
        }
        int b = best(values);
        return what == 0 ? b : values.get(b).intValue();
    }

    public int tooLong() {
        int r = firstOf(state(!row.isEmpty()));
        if (r != 0) return r;
        int sum = row.stream().mapToInt(v -> v - 50).sum();
        return sum == 0 ? 0 : sum > 0 ? 1 : 2;
    }

    public int unlike() {
        int r = firstOf(state(!row.isEmpty()));
        return r != 0 ? r : Collections.max(row) - Collections.min(row);
    }

    public int moved(int least) {
        int r = firstOf(low(least, 1), high(least, 99));
        if (r != 0) return r;
        for (int i = 1; i < row.size(); i++) {
            boolean all = true;
            for (int k = i; k < row.size(); k++) for (int h = 0; h < i; h++) all &= row.get(h) - row.get(k) >= least;
            if (all) return i;
        }
        return -9;
    }

    public int gusts(int j) {
        int r = firstOf(body(j), state(row.stream().allMatch(v -> v <= 18)));
        if (r != 0) return r;
        List<BigInteger> values = new ArrayList<>();
        for (int v : row)
            values.add(meanOf(at(j), s.strides, v - 9, at(j).mark - path(at(j), s.strides, v - 9)));
        return values.isEmpty() ? -9 : best(values);
    }

    public long on(int j, int part) {
        int r = firstOf(body(j), what(part, 1), state(roundAndTurn(s)[0] <= 2));
        if (r != 0) return BIG - r;
        List<List<int[]>> worlds = new ArrayList<>();
        worlds.add(counted(s.tries, 0));
        for (int i = turnIn(s); i < s.all.size(); i++) {
            int m = meanOf(at(i), s.strides, s.wind, placeIn(i)).divide(all(s.strides)).intValue();
            List<List<int[]>> next = new ArrayList<>();
            for (List<int[]> w : worlds) {
                List<int[]> hit = new ArrayList<>(w);
                hit.add(new int[] {i, m});
                next.add(hit);
                next.add(w);
            }
            worlds = next;
        }
        int hits = 0;
        for (List<int[]> w : worlds) if (rank(s.all.size(), w).indexOf(j) < s.goOn) hits++;
        return told(BigInteger.valueOf(hits), BigInteger.valueOf(worlds.size()), part);
    }

    public int row(int v) {
        int r = firstOf(low(v, 0), high(v, 99), high(row.size(), 11));
        if (r != 0) return r;
        row.add(v);
        return row.size();
    }

    public int judge() {
        List<Integer> told = new ArrayList<>(row);
        row.clear();
        State mind = s;
        for (int i = 0; i < told.size(); i++) {
            if (turnIn(mind) == -9) return i;
            int ahead = first(mind);
            mind = told.get(i) < 50 ? mind.tries(-9, 0) : mind.tries(0, told.get(i) - 50);
            if (first(mind) != ahead) return i;
        }
        return -9;
    }

    public int clear() {
        int had = row.size();
        row.clear();
        return had;
    }

    private int z;

    private int draw() {
        z = (int) ((long) z * 1103515245L + 12345L);
        return (int) ((z & 0x7fffffffL) >> 16) % 4;
    }

    public int seeds(int j, int n, int seed, int what) {
        int r = firstOf(body(j), low(n, 1), high(n, 20), what(what, 1));
        if (r != 0) return r;
        z = seed;
        int firsts = 0;
        int sum = 0;
        for (int i = 0; i < n; i++) {
            State mind = s;
            while (turnIn(mind) != -9) {
                int who = turnIn(mind);
                Athlete a = at(who);
                int[] slips = new int[s.strides];
                for (int k = 0; k < s.strides; k++) {
                    int d = draw();
                    slips[k] = d == 0 ? a.slip : d == 3 ? -a.slip : 0;
                }
                int early = Arrays.stream(slips, 0, s.strides - a.look).sum();
                int late = Arrays.stream(slips, s.strides - a.look, s.strides).sum();
                int d = placeIn(who) - early - aimOf(a);
                int taken = a.look == 0 ? 0 : Integer.signum(d) * (Math.abs(d) / 2);
                int b = placeIn(who) - early - taken - late;
                int told = b < 0 ? -9 : lengthOf(a, b, Math.abs(taken) / 4, s.wind);
                mind = mind.tried(new Try(who, b, told, 0));
                if (who == j && told > 0) sum += told;
            }
            if (first(mind) == j) firsts++;
        }
        return what == 0 ? firsts : sum;
    }

    private TreeMap<Integer, Integer> partsAt(int j, int place) {
        TreeMap<Integer, Integer> parts = new TreeMap<>();
        lengths(at(j), s.strides, s.wind, place).forEach((l, w) -> parts.put(l, tenThousandths(w, s.strides)));
        return parts;
    }

    public int parts(int j, int v) {
        int r = firstOf(body(j), low(v, 0), high(v, 999));
        return r != 0 ? r : partsAt(j, placeIn(j)).getOrDefault(v, 0);
    }

    private int moreAt(int one, int placeOne, int other, int placeOther) {
        BigInteger sum = BigInteger.ZERO;
        TreeMap<Integer, Integer> b = partsAt(other, placeOther);
        for (Map.Entry<Integer, Integer> e : partsAt(one, placeOne).entrySet())
            for (Map.Entry<Integer, Integer> f : b.entrySet())
                if (f.getKey() < e.getKey()) sum = sum.add(BigInteger.valueOf((long) e.getValue() * f.getValue()));
        return sum.divide(BigInteger.valueOf(10000)).intValue();
    }

    public int more(int one, int other) {
        int r = firstOf(two(one, other));
        return r != 0 ? r : moreAt(one, placeIn(one), other, placeIn(other));
    }

    public int duel(int one, int other, int what) {
        int r = firstOf(two(one, other), what(what, 2));
        if (r != 0) return r;
        int[][] m = new int[3][3];
        for (int a = 0; a < 3; a++) for (int b = 0; b < 3; b++) m[a][b] = moreAt(one, 6 * a, other, 6 * b);
        if (what == 2) return Arrays.stream(m).mapToInt(x -> Arrays.stream(x).min().getAsInt()).max().getAsInt();
        for (int a = 0; a < 3; a++) {
            for (int b = 0; b < 3; b++) {
                boolean calm = true;
                for (int c = 0; c < 3; c++) calm &= m[c][b] <= m[a][b] && m[a][c] >= m[a][b];
                if (calm) return what == 0 ? 10 * a + b : m[a][b];
            }
        }
        return -9;
    }

    public int practice(int j) {
        int r = firstOf(body(j));
        if (r != 0) return r;
        Athlete a = at(j);
        Athlete[] as = {a.slip > 0 ? a.slip(a.slip - 1) : a, a.grow > 0 ? a.grow(a.grow - 1) : a,
            a.pace < 99 ? a.pace(a.pace + 1) : a, a.look < 4 ? a.look(a.look + 1) : a, a.look > 0 ? a.look(a.look - 1) : a};
        List<BigInteger> values = new ArrayList<>();
        for (Athlete x : as) values.add(meanOf(x, s.strides, s.wind, placeIn(j)));
        int b = best(values);
        return values.get(b).compareTo(meanOf(a, s.strides, s.wind, placeIn(j))) > 0 ? b : -9;
    }

    public int bestRun(int j) {
        int r = firstOf(body(j));
        if (r != 0) return r;
        List<BigInteger> values = new ArrayList<>();
        for (int n = 4; n <= 20; n++) values.add(meanOf(at(j), n, s.wind, aimOf(at(j))).multiply(all(20 - n)));
        return 4 + best(values);
    }

    public int markIn(int j, int w) {
        int r = firstOf(body(j), low(w, -9), high(w, 9));
        return r != 0 ? r : Math.min(2400, Math.max(0, path(at(j), s.strides, w) + aimOf(at(j))));
    }

    private List<Integer> made(int j) {
        List<Integer> l = new ArrayList<>();
        for (Try t : s.tries) if (t.who == j && t.told != -8) l.add(t.told);
        return l;
    }

    public long fouled(int j, int part) {
        int r = firstOf(body(j), what(part, 1));
        if (r != 0) return BIG - r;
        List<Integer> l = made(j);
        if (l.isEmpty()) return part;
        return told(BigInteger.valueOf(Collections.frequency(l, -9)), BigInteger.valueOf(l.size()), part);
    }

    public int better(int j) {
        int r = firstOf(body(j));
        if (r != 0) return r;
        int count = 0;
        List<Integer> l = made(j);
        for (int i = 0; i < l.size(); i++) {
            int v = l.get(i);
            if (v > 0 && l.subList(0, i).stream().allMatch(u -> u < v)) count++;
        }
        return count;
    }

    public int half(int j) {
        int r = firstOf(body(j));
        if (r != 0) return r;
        List<Integer> l = new ArrayList<>();
        for (int v : made(j)) l.add(Math.max(0, v));
        Collections.sort(l);
        return l.isEmpty() ? -9 : l.get((l.size() + 1) / 2 - 1);
    }

    public int safe(int j) {
        int r = firstOf(body(j));
        if (r != 0) return r;
        List<int[]> others = counted(s.tries, 0);
        for (int i = 0; i < s.all.size(); i++) if (i != j) others.add(new int[] {i, lengthOf(at(i), 0, 0, s.wind)});
        return least(j, s.goOn, others);
    }

    public int mayStill() {
        if (turnIn(s) == -9) return s.all.isEmpty() ? 0 : 1 << first(s);
        int bits = 0;
        for (int j = 0; j < s.all.size(); j++) {
            List<int[]> l = counted(s.tries, 0);
            l.add(new int[] {j, lengthOf(at(j), 0, 0, s.wind)});
            if (rank(s.all.size(), l).get(0) == j) bits |= 1 << j;
        }
        return bits;
    }

    public int image() {
        picture = s;
        return s.tries.size();
    }

    public int restore() {
        int r = firstOf(state(picture != null));
        if (r != 0) return r;
        s = picture;
        return s.tries.size();
    }

    public int count(int what) {
        return switch (what) {
            case 0 -> s.all.size();
            case 1 -> roundAndTurn(s)[0];
            case 2 -> s.tries.size();
            case 3 -> s.strides;
            case 4 -> s.goOn;
            case 5 -> (int) s.tries.stream().filter(t -> t.told == -9).count();
            case 6 -> (int) s.tries.stream().filter(t -> t.told == -8).count();
            case 7 -> text.length();
            case 8 -> row.size();
            case 11, 12, 13, 14, 15, 16 -> no[what];
            default -> -9;
        };
    }
}
