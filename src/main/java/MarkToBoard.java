import java.util.Arrays;

public final class MarkToBoard {
    private static final int NOBODY = -1;
    private static final int OTHER = -2;
    private static final int STATE = -3;
    private static final int BELOW = -4;
    private static final int ROOM = -6;
    private static final int NONE = -9;
    private static final int FOUL = -9;
    private static final int PASSED = -8;
    private static final int OVER = 6;

    private static final int JUMPERS = 4;
    private static final int KINDS = 6;
    private static final int FEWEST_STRIDES = 4;
    private static final int MOST_STRIDES = 20;
    private static final int MOST_WIND = 9;
    private static final int MOST_LOOK = 4;
    private static final int MOST_PACE = 99;
    private static final int MOST_MARK = 2400;
    private static final int MOST_OFF = 300;
    private static final int MOST_LENGTH = 999;
    private static final int MOST_TRIES = 24;
    private static final int MOST_OWN_TRIES = 6;
    private static final int LETTERS = 96;
    private static final int ROW = 12;
    private static final int ROW_EDGE = 50;
    private static final int WHOLE = 10000;
    private static final int CHOICES = 3;
    private static final int FINE = -1;
    private static final int SHIFT = 1000000000;
    private static final long LONG_SHIFT = 4000000000000000000L;

    private final Kind[] kinds = new Kind[KINDS];
    private final Meet now;
    private final Meet mind;
    private final Meet kept;
    private boolean imaged;
    private final int[] letters = new int[LETTERS];
    private int letterCount;
    private final int[] row = new int[ROW];
    private int rowCount;
    private final int[] refusals = new int[7];
    private final Ranking ranking = new Ranking();
    private final Chances chances = new Chances();
    private final Jumper spare;
    private final int[] partsOne = new int[MOST_LENGTH + 1];
    private final int[] partsOther = new int[MOST_LENGTH + 1];
    private final int[] pairs = new int[CHOICES * CHOICES];
    private final int[] means = new int[JUMPERS];
    private int seed;

    public MarkToBoard() {
        Kind plain = new Kind();
        kinds[0] = plain;
        kinds[1] = new Safe();
        kinds[2] = new Bold();
        kinds[3] = new Looker();
        kinds[4] = new Winded();
        kinds[5] = new Steady();
        now = new Meet(plain);
        mind = new Meet(plain);
        kept = new Meet(plain);
        spare = new Jumper(plain);
    }

    // ---- refusals ----

    private int refuse(int number) {
        if (number < 0 && -number < refusals.length) {
            refusals[-number]++;
        }
        return number;
    }

    private static int first(int one, int other) {
        return one != 0 ? one : other;
    }

    private int nobody(int jumper) {
        return jumper < 0 || jumper >= now.size ? NOBODY : 0;
    }

    private int nobodyOfTwo(int one, int other) {
        return one == other ? NOBODY : first(nobody(one), nobody(other));
    }

    private static int noSuch(int what, int most) {
        return what < 0 || what > most ? OTHER : 0;
    }

    private static int outside(int v, int least, int most) {
        return v < least ? BELOW : v > most ? ROOM : 0;
    }

    private static int noPart(int part) {
        return noSuch(part, 1);
    }

    // BELOW is told ahead of ROOM for both numbers together.
    private static int outsideTwo(int one, int other) {
        return one == BELOW || other == BELOW ? BELOW : first(one, other);
    }

    // ---- ground ----

    public int feed(int letter) {
        int no = first(outside(letter, 0, 255), outside(letterCount, 0, LETTERS - 1));
        if (no != 0) {
            return refuse(no);
        }
        letters[letterCount] = letter;
        letterCount++;
        return letterCount;
    }

    public int ground() {
        int bad = firstBadLetter();
        int answer = bad != FINE ? -1000 - bad : statementsInMind();
        letterCount = 0;
        if (answer >= 0) {
            now.copyFrom(mind);
        }
        return answer;
    }

    private static int digitsBehind(int letter) {
        switch (letter) {
            case 'n':
            case 't':
                return 2;
            case 'w':
            case 'g':
                return 1;
            case 'j':
                return 13;
            case 'f':
            case 'p':
                return 0;
            default:
                return -1;
        }
    }

    private int firstBadLetter() {
        boolean open = false;
        boolean sign = false;
        int digits = 0;
        for (int p = 0; p < letterCount; p++) {
            int c = letters[p];
            if (!open) {
                digits = digitsBehind(c);
                if (digits < 0) {
                    return p;
                }
                sign = c == 'w';
                open = true;
            } else if (sign) {
                if (c != '+' && c != '-') {
                    return p;
                }
                sign = false;
            } else if (digits > 0) {
                if (c < '0' || c > '9') {
                    return p;
                }
                digits--;
            } else if (c != ';') {
                return p;
            } else {
                open = false;
            }
        }
        return open || letterCount == 0 ? letterCount : FINE;
    }

    private static int span(int letter) {
        int digits = digitsBehind(letter);
        return (digits < 0 ? 0 : digits) + (letter == 'w' ? 3 : 2);
    }

    private int statementsInMind() {
        mind.copyFrom(now);
        int count = 0;
        for (int p = 0; p < letterCount; p += span(letters[p])) {
            if (!comes(p)) {
                return -2000 - p;
            }
            count++;
        }
        return count;
    }

    private boolean comes(int p) {
        switch (letters[p]) {
            case 'n':
                return stridesCome(number(p + 1, 2));
            case 'w':
                return windComes(isMinus(p + 1), number(p + 2, 1));
            case 'g':
                return goOnComes(number(p + 1, 1));
            case 'j':
                return jumperComes(p);
            case 't':
                return tryComes(number(p + 1, 2));
            case 'f':
                return tryComes(FOUL);
            case 'p':
                return tryComes(PASSED);
            default:
                return false;
        }
    }

    private boolean isMinus(int p) {
        return p < letterCount && letters[p] == '-';
    }

    private int number(int from, int digits) {
        int v = 0;
        for (int p = from; p < from + digits && p < letterCount; p++) {
            v = 10 * v + letters[p] - '0';
        }
        return v;
    }

    private boolean windComes(boolean minus, int v) {
        mind.wind = minus ? -v : v;
        return true;
    }

    private boolean stridesCome(int v) {
        boolean fits = mind.tries == 0 && outside(v, FEWEST_STRIDES, MOST_STRIDES) == 0;
        if (fits) {
            mind.strides = v;
        }
        return fits;
    }

    private boolean goOnComes(int v) {
        boolean fits = mind.tries == 0 && outside(v, 1, JUMPERS) == 0;
        if (fits) {
            mind.goOn = v;
        }
        return fits;
    }

    private boolean jumperComes(int p) {
        int kind = number(p + 1, 1);
        if (mind.tries > 0 || mind.size >= JUMPERS || outside(kind, 0, KINDS - 1) != 0) {
            return false;
        }
        Jumper one = mind.at(mind.size);
        one.way = kinds[kind];
        one.kind = kind;
        one.figure = number(p + 2, 1);
        one.stride = number(p + 3, 2);
        one.grow = number(p + 5, 1);
        one.slip = number(p + 6, 1);
        one.pace = number(p + 7, 2);
        one.look = number(p + 9, 1);
        one.mark = number(p + 10, 4);
        mind.size++;
        return one.stride >= 40 && one.slip <= 6 && one.pace >= 20
                && one.look <= MOST_LOOK && one.mark <= MOST_MARK;
    }

    // b below 0 is FOUL or PASSED.
    private boolean tryComes(int b) {
        int who = mind.inTurn(ranking);
        if (who < 0) {
            return false;
        }
        mind.record(who, b, 0);
        return true;
    }

    // ---- jumpers ----

    public int jumper(int jumper, int what) {
        int no = first(nobody(jumper), noSuch(what, 11));
        if (no != 0) {
            return refuse(no);
        }
        if (what < 9) {
            return now.at(jumper).property(what);
        }
        if (what == 11) {
            return now.triesOf(jumper);
        }
        now.rank(ranking, 0, now.tries);
        return what == 9 ? ranking.longest(jumper) : ranking.secondLongest(jumper);
    }

    public int mark(int jumper, int v) {
        int no = first(nobody(jumper), outside(v, 0, MOST_MARK));
        if (no != 0) {
            return refuse(no);
        }
        int was = now.at(jumper).mark;
        now.at(jumper).mark = v;
        return was;
    }

    public int look(int jumper, int v) {
        int no = first(nobody(jumper), outside(v, 0, MOST_LOOK));
        if (no != 0) {
            return refuse(no);
        }
        int was = now.at(jumper).look;
        now.at(jumper).look = v;
        return was;
    }

    public int set(int what, int v) {
        int no = noSuch(what, 1);
        if (no == 0) {
            no = what == 0 ? outside(v, FEWEST_STRIDES, MOST_STRIDES) : outside(v, 1, JUMPERS);
        }
        no = first(no, now.tries > 0 ? STATE : 0);
        if (no != 0) {
            return refuse(no);
        }
        int was = what == 0 ? now.strides : now.goOn;
        if (what == 0) {
            now.strides = v;
        } else {
            now.goOn = v;
        }
        return was;
    }

    public int wind(int v) {
        int no = outside(v, -MOST_WIND, MOST_WIND);
        if (no != 0) {
            return SHIFT - refuse(no);
        }
        int was = now.wind;
        now.wind = v;
        return was;
    }

    public int stride(int jumper, int k) {
        int no = first(nobody(jumper), outside(k, 0, now.strides - 1));
        if (no != 0) {
            return refuse(no);
        }
        Jumper one = now.at(jumper);
        return one.way.strideOf(one, k, now.wind);
    }

    public int place(int jumper) {
        int no = nobody(jumper);
        return no != 0 ? SHIFT - refuse(no) : placeOf(jumper);
    }

    private int placeOf(int jumper) {
        Jumper one = now.at(jumper);
        return one.mark - one.path(now.strides, now.wind);
    }

    public int length(int jumper, int b, int l) {
        int no = first(nobody(jumper), outsideTwo(outside(b, 0, MOST_OFF), outside(l, 0, 99)));
        if (no != 0) {
            return refuse(no);
        }
        Jumper one = now.at(jumper);
        return one.way.lengthOf(one, b, l, now.wind);
    }

    // ---- chances ----

    private static long fraction(long above, long below, int part) {
        long a = above;
        long b = below;
        for (int i = 0; i < 1000 && b != 0; i++) {
            long rest = a % b;
            a = b;
            b = rest;
        }
        long whole = part == 0 ? above : below;
        return a == 0 ? whole : whole / a;
    }

    private void spreadNow(int jumper, int b) {
        chances.spread(now.at(jumper), now.strides, now.wind, placeOf(jumper), b);
    }

    private void spreadAt(Jumper one, int place) {
        chances.spread(one, now.strides, now.wind, place, 0);
    }

    public long off(int jumper, int b, int part) {
        int no = first(first(nobody(jumper), outside(b, -MOST_OFF, MOST_OFF)), noPart(part));
        if (no != 0) {
            return LONG_SHIFT - refuse(no);
        }
        spreadNow(jumper, b);
        return fraction(chances.off, chances.all, part);
    }

    public long mean(int jumper, int what, int part) {
        int no = first(nobody(jumper), first(noSuch(what, 1), noPart(part)));
        if (no != 0) {
            return LONG_SHIFT - refuse(no);
        }
        spreadNow(jumper, 0);
        return fraction(what == 0 ? chances.fouls : chances.meanWays(), chances.all, part);
    }

    public long past(int jumper, int v, int part) {
        int no = first(first(nobody(jumper), outside(v, 0, MOST_LENGTH)), noPart(part));
        if (no != 0) {
            return LONG_SHIFT - refuse(no);
        }
        spreadNow(jumper, 0);
        return fraction(chances.waysPast(v), chances.all, part);
    }

    public int bestLook(int jumper) {
        int no = nobody(jumper);
        if (no != 0) {
            return refuse(no);
        }
        spare.copyFrom(now.at(jumper));
        int place = placeOf(jumper);
        int best = 0;
        long most = -1;
        for (int look = 0; look <= MOST_LOOK; look++) {
            spare.look = look;
            spreadAt(spare, place);
            long mean = chances.meanWays();
            if (mean > most) {
                most = mean;
                best = look;
            }
        }
        return best;
    }

    public int bestMark(int jumper, int v) {
        int no = first(nobody(jumper), outside(v, -1, MOST_LENGTH));
        if (no != 0) {
            return refuse(no);
        }
        Jumper one = now.at(jumper);
        int path = one.path(now.strides, now.wind);
        int best = one.mark;
        long most = -1;
        for (int mark = Math.max(0, one.mark - 40); mark <= Math.min(MOST_MARK, one.mark + 40); mark++) {
            spreadAt(one, mark - path);
            long reached = v < 0 ? chances.meanWays() : chances.waysPast(v);
            if (reached > most) {
                most = reached;
                best = mark;
            }
        }
        return best;
    }

    public int back(int jumper, int w) {
        int no = first(nobody(jumper), outside(w, -MOST_WIND, MOST_WIND));
        if (no != 0) {
            return SHIFT - refuse(no);
        }
        Jumper one = now.at(jumper);
        return one.path(now.strides, w) - one.path(now.strides, now.wind);
    }

    // ---- the meet ----

    public int turn() {
        return now.inTurn(ranking);
    }

    private int notInTurn(int jumper) {
        return now.inTurn(ranking) != jumper ? STATE : 0;
    }

    public int jump(int jumper, int b) {
        int no = first(nobody(jumper), first(notInTurn(jumper), outside(b, 0, MOST_OFF)));
        return no != 0 ? refuse(no) : now.record(jumper, b, 0);
    }

    public int none(int jumper, int what) {
        int no = first(nobody(jumper), first(noSuch(what, 1), notInTurn(jumper)));
        if (no != 0) {
            return refuse(no);
        }
        now.record(jumper, what == 0 ? FOUL : PASSED, 0);
        return now.triesOf(jumper);
    }

    public int undo() {
        if (now.tries <= 0) {
            return refuse(STATE);
        }
        now.tries--;
        return now.who[now.tries];
    }

    public int tried(int jumper, int k) {
        int t = nobody(jumper) != 0 ? -1 : now.find(jumper, k);
        return t < 0 ? refuse(NOBODY) : now.result[t];
    }

    public int needs(int jumper, int what) {
        int no = first(nobody(jumper), noSuch(what, 1));
        if (no != 0) {
            return refuse(no);
        }
        now.rank(ranking, 0, now.tries);
        return leastFor(jumper, what == 0 ? 1 : now.finalists());
    }

    private int leastFor(int jumper, int places) {
        for (int length = 0; length <= MOST_LENGTH; length++) {
            if (ranking.ahead(jumper, length) < places) {
                return length;
            }
        }
        return NONE;
    }

    public int ranks(int what) {
        int no = noSuch(what, 2);
        if (no != 0) {
            return refuse(no);
        }
        now.rank(ranking, what, now.tries);
        int digits = 0;
        for (int i = now.size - 1; i >= 0; i--) {
            digits = 10 * digits + ranking.at(i);
        }
        return digits;
    }

    public int leads() {
        return now.leader(ranking);
    }

    public int goOn() {
        now.rank(ranking, 0, now.tries);
        int bits = 0;
        for (int i = 0; i < now.finalists(); i++) {
            bits |= 1 << ranking.at(i);
        }
        return bits;
    }

    public int aim(int jumper, int m, int v, int what) {
        int no = first(nobody(jumper), outsideTwo(outside(m, 1, 3), outside(v, 0, MOST_LENGTH)));
        no = first(no, noSuch(what, 1));
        if (no != 0) {
            return refuse(no);
        }
        int best = 0;
        int least = WHOLE + 1;
        for (int b = 0; b <= 20; b++) {
            spreadAt(now.at(jumper), b);
            int left = leftOf(chances.share(chances.waysPast(v)), m);
            if (left < least) {
                least = left;
                best = b;
            }
        }
        return what == 0 ? best : WHOLE - least;
    }

    private static int leftOf(int share, int m) {
        int left = WHOLE;
        for (int i = 0; i < m; i++) {
            left = left * (WHOLE - share) / WHOLE;
        }
        return left;
    }

    // ---- the row ----

    public int tooLong() {
        if (rowCount == 0) {
            return refuse(STATE);
        }
        int sum = 0;
        for (int i = 0; i < rowCount; i++) {
            sum += row[i] - ROW_EDGE;
        }
        return sum > 0 ? 1 : sum < 0 ? 2 : 0;
    }

    public int unlike() {
        return rowCount == 0 ? refuse(STATE) : greatestFrom(0) - leastAhead(rowCount);
    }

    private int greatestFrom(int from) {
        int most = 0;
        for (int i = from; i < rowCount; i++) {
            most = Math.max(most, row[i]);
        }
        return most;
    }

    private int leastAhead(int end) {
        int least = 99;
        for (int i = 0; i < end && i < rowCount; i++) {
            least = Math.min(least, row[i]);
        }
        return least;
    }

    public int moved(int s) {
        int no = outside(s, 1, 99);
        if (no != 0) {
            return refuse(no);
        }
        for (int i = 1; i < rowCount; i++) {
            if (greatestFrom(i) <= leastAhead(i) - s) {
                return i;
            }
        }
        return NONE;
    }

    public int gusts(int jumper) {
        int no = first(nobody(jumper), greatestFrom(0) > 2 * MOST_WIND ? STATE : 0);
        if (no != 0) {
            return refuse(no);
        }
        Jumper one = now.at(jumper);
        int best = NONE;
        long most = -1;
        for (int i = 0; i < rowCount; i++) {
            int wind = row[i] - MOST_WIND;
            chances.spread(one, now.strides, wind, one.mark - one.path(now.strides, wind), 0);
            long mean = chances.meanWays();
            if (mean > most) {
                most = mean;
                best = i;
            }
        }
        return best;
    }

    public long on(int jumper, int part) {
        int no = first(nobody(jumper), first(noPart(part), now.round() > 2 ? STATE : 0));
        if (no != 0) {
            return LONG_SHIFT - refuse(no);
        }
        int from = now.size > 0 ? now.tries % now.size : 0;
        int open = now.size - from;
        for (int i = from; i < now.size; i++) {
            spreadNow(i, 0);
            means[i] = (int) (chances.meanWays() >> (2 * now.strides));
        }
        int hits = 0;
        for (int bits = 0; bits < 1 << open; bits++) {
            now.rank(ranking, 0, now.tries);
            for (int i = from; i < now.size; i++) {
                ranking.add(i, ((bits >> (i - from)) & 1) != 0 ? means[i] : 0);
            }
            hits += ranking.ahead(jumper, 0) < now.finalists() ? 1 : 0;
        }
        return fraction(hits, 1L << open, part);
    }

    public int row(int v) {
        int no = first(outside(v, 0, 99), outside(rowCount, 0, ROW - 1));
        if (no != 0) {
            return refuse(no);
        }
        row[rowCount] = v;
        rowCount++;
        return rowCount;
    }

    public int judge() {
        int answer = judged();
        rowCount = 0;
        return answer;
    }

    private int judged() {
        mind.copyFrom(now);
        for (int i = 0; i < rowCount; i++) {
            int ahead = mind.leader(ranking);
            int b = row[i] - ROW_EDGE;
            if (!tryComes(b < 0 ? FOUL : b) || mind.leader(ranking) != ahead) {
                return i;
            }
        }
        return NONE;
    }

    public int clear() {
        int had = rowCount;
        rowCount = 0;
        return had;
    }

    // ---- seeds ----

    public int seeds(int jumper, int n, int z, int what) {
        int no = first(first(nobody(jumper), outside(n, 1, 20)), noSuch(what, 1));
        if (no != 0) {
            return refuse(no);
        }
        seed = z;
        int firsts = 0;
        int lengths = 0;
        for (int i = 0; i < n; i++) {
            mind.copyFrom(now);
            lengths += playToTheEnd(jumper);
            firsts += mind.leader(ranking) == jumper ? 1 : 0;
        }
        return what == 0 ? firsts : lengths;
    }

    private int playToTheEnd(int jumper) {
        int lengths = 0;
        for (int t = 0; t < MOST_TRIES; t++) {
            int who = mind.inTurn(ranking);
            if (who < 0) {
                return lengths;
            }
            int length = Math.max(0, runByDraws(who));
            lengths += who == jumper ? length : 0;
        }
        return lengths;
    }

    private int runByDraws(int who) {
        Jumper one = mind.at(who);
        int left = one.mark - one.path(mind.strides, mind.wind);
        int loss = 0;
        for (int k = 0; k < mind.strides; k++) {
            if (mind.strides - k == one.look) {
                int back = (left - one.way.aimOf(one)) / 2;
                left -= back;
                loss = Math.abs(back) / 4;
            }
            int draw = drawBelow(4);
            left -= draw == 0 ? one.slip : draw == 3 ? -one.slip : 0;
        }
        return mind.record(who, left < 0 ? FOUL : left, loss);
    }

    private int drawBelow(int n) {
        seed = seed * 1103515245 + 12345;
        return n <= 0 ? 0 : (seed & 0x7fffffff) / 65536 % n;
    }

    // ---- parts ----

    public int parts(int jumper, int v) {
        int no = first(nobody(jumper), outside(v, 0, MOST_LENGTH));
        if (no != 0) {
            return refuse(no);
        }
        spreadNow(jumper, 0);
        return chances.share(chances.byLength[v]);
    }

    private void fillParts(int[] parts, int jumper, int place) {
        chances.spread(now.at(jumper), now.strides, now.wind, place, 0);
        for (int v = 0; v < parts.length && v <= MOST_LENGTH; v++) {
            parts[v] = chances.share(chances.byLength[v]);
        }
    }

    private int moreByParts() {
        long sum = 0;
        long lesser = 0;
        for (int v = 0; v <= MOST_LENGTH; v++) {
            sum += partsOne[v] * lesser;
            lesser += partsOther[v];
        }
        return (int) (sum / WHOLE);
    }

    public int more(int one, int other) {
        int no = nobodyOfTwo(one, other);
        if (no != 0) {
            return refuse(no);
        }
        fillParts(partsOne, one, placeOf(one));
        fillParts(partsOther, other, placeOf(other));
        return moreByParts();
    }

    public int duel(int one, int other, int what) {
        int no = first(nobodyOfTwo(one, other), noSuch(what, 2));
        if (no != 0) {
            return refuse(no);
        }
        for (int a = 0; a < CHOICES; a++) {
            fillParts(partsOne, one, 6 * a);
            for (int b = 0; b < CHOICES; b++) {
                fillParts(partsOther, other, 6 * b);
                pairs[CHOICES * a + b] = moreByParts();
            }
        }
        return what == 2 ? sure() : calmPair(what);
    }

    private int leastOfRow(int a) {
        return Math.min(pairs[CHOICES * a], Math.min(pairs[CHOICES * a + 1], pairs[CHOICES * a + 2]));
    }

    private int mostOfColumn(int b) {
        return Math.max(pairs[b], Math.max(pairs[CHOICES + b], pairs[2 * CHOICES + b]));
    }

    private int sure() {
        return Math.max(leastOfRow(0), Math.max(leastOfRow(1), leastOfRow(2)));
    }

    private int calmPair(int what) {
        for (int a = 0; a < CHOICES; a++) {
            for (int b = 0; b < CHOICES; b++) {
                int here = pairs[CHOICES * a + b];
                if (here == leastOfRow(a) && here == mostOfColumn(b)) {
                    return what == 0 ? 10 * a + b : here;
                }
            }
        }
        return NONE;
    }

    // ---- practice ----

    public int practice(int jumper) {
        int no = nobody(jumper);
        if (no != 0) {
            return refuse(no);
        }
        int place = placeOf(jumper);
        spreadAt(now.at(jumper), place);
        long most = chances.meanWays();
        int best = NONE;
        for (int what = 0; what < 5; what++) {
            spare.copyFrom(now.at(jumper));
            long mean = practised(what) ? meanAt(place) : -1;
            if (mean > most) {
                most = mean;
                best = what;
            }
        }
        return best;
    }

    private long meanAt(int place) {
        chances.spread(spare, now.strides, now.wind, place, 0);
        return chances.meanWays();
    }

    private boolean practised(int what) {
        switch (what) {
            case 0:
                spare.slip--;
                break;
            case 1:
                spare.grow--;
                break;
            case 2:
                spare.pace++;
                break;
            case 3:
                spare.look++;
                break;
            default:
                spare.look--;
                break;
        }
        return spare.slip >= 0 && spare.grow >= 0 && spare.pace <= MOST_PACE
                && spare.look >= 0 && spare.look <= MOST_LOOK;
    }

    public int bestRun(int jumper) {
        int no = nobody(jumper);
        if (no != 0) {
            return refuse(no);
        }
        Jumper one = now.at(jumper);
        int best = FEWEST_STRIDES;
        long most = -1;
        for (int strides = FEWEST_STRIDES; strides <= MOST_STRIDES; strides++) {
            chances.spread(one, strides, now.wind, one.way.aimOf(one), 0);
            // All means over one line, so that different numbers of STRIDES compare.
            long mean = chances.meanWays() << (2 * (MOST_STRIDES - strides));
            if (mean > most) {
                most = mean;
                best = strides;
            }
        }
        return best;
    }

    public int markIn(int jumper, int w) {
        int no = first(nobody(jumper), outside(w, -MOST_WIND, MOST_WIND));
        if (no != 0) {
            return refuse(no);
        }
        Jumper one = now.at(jumper);
        return Math.max(0, Math.min(MOST_MARK, one.path(now.strides, w) + one.way.aimOf(one)));
    }

    // ---- what the tries tell ----

    public long fouled(int jumper, int part) {
        int no = first(nobody(jumper), noPart(part));
        if (no != 0) {
            return LONG_SHIFT - refuse(no);
        }
        int fouls = 0;
        int made = 0;
        for (int t = 0; t < now.tries; t++) {
            if (now.who[t] == jumper && now.result[t] != PASSED) {
                made++;
                fouls += now.result[t] == FOUL ? 1 : 0;
            }
        }
        return fraction(fouls, Math.max(1, made), part);
    }

    public int better(int jumper) {
        int no = nobody(jumper);
        if (no != 0) {
            return refuse(no);
        }
        int longest = 0;
        int count = 0;
        for (int t = 0; t < now.tries; t++) {
            if (now.who[t] == jumper && now.result[t] > longest) {
                longest = now.result[t];
                count++;
            }
        }
        return count;
    }

    public int half(int jumper) {
        int no = nobody(jumper);
        if (no != 0) {
            return refuse(no);
        }
        int[] sorted = new int[MOST_OWN_TRIES];
        int count = 0;
        for (int t = 0; t < now.tries; t++) {
            if (now.who[t] == jumper && now.result[t] != PASSED && count < MOST_OWN_TRIES) {
                insert(sorted, count, Math.max(0, now.result[t]));
                count++;
            }
        }
        return count == 0 ? NONE : sorted[(count - 1) / 2];
    }

    private static void insert(int[] sorted, int count, int v) {
        int at = count;
        while (at > 0 && sorted[at - 1] > v) {
            sorted[at] = sorted[at - 1];
            at--;
        }
        sorted[at] = v;
    }

    private int fullLength(int jumper) {
        Jumper one = now.at(jumper);
        return one.way.lengthOf(one, 0, 0, now.wind);
    }

    public int safe(int jumper) {
        int no = nobody(jumper);
        if (no != 0) {
            return refuse(no);
        }
        now.rank(ranking, 0, now.tries);
        for (int i = 0; i < now.size; i++) {
            if (i != jumper) {
                ranking.add(i, fullLength(i));
            }
        }
        return leastFor(jumper, now.finalists());
    }

    public int mayStill() {
        boolean over = now.round() == OVER;
        now.rank(ranking, 0, now.tries);
        int bits = 0;
        for (int i = 0; i < now.size; i++) {
            if (ranking.ahead(i, over ? 0 : fullLength(i)) == 0) {
                bits |= 1 << i;
            }
        }
        return bits;
    }

    // ---- the image ----

    public int image() {
        kept.copyFrom(now);
        imaged = true;
        return now.tries;
    }

    public int restore() {
        if (!imaged) {
            return refuse(STATE);
        }
        now.copyFrom(kept);
        return now.tries;
    }

    public int count(int what) {
        switch (what) {
            case 0:
                return now.size;
            case 1:
                return now.round();
            case 2:
                return now.tries;
            case 3:
                return now.strides;
            case 4:
                return now.goOn;
            case 5:
                return now.triesWith(FOUL);
            case 6:
                return now.triesWith(PASSED);
            case 7:
                return letterCount;
            case 8:
                return rowCount;
            default:
                return what > 10 && what - 10 < refusals.length ? refusals[what - 10] : NONE;
        }
    }

    // ---- kinds ----

    // JUMPER itself; the others stand under it as the document puts them.
    private static class Kind {
        int aimOf(Jumper one) {
            return 0;
        }

        int strideOf(Jumper one, int k, int wind) {
            return one.stride + one.grow * k / 10 + wind * k / 10;
        }

        int lengthOf(Jumper one, int b, int l, int wind) {
            int length = 4 * one.pace + 2 * wind + one.figure - b - 2 * l;
            return length < 0 ? 0 : length;
        }
    }

    private static class Safe extends Kind {
        int aimOf(Jumper one) {
            return one.figure + 2;
        }

        int lengthOf(Jumper one, int b, int l, int wind) {
            int length = super.lengthOf(one, b, l, wind) - 3;
            return length < 0 ? 0 : length;
        }
    }

    private static class Bold extends Kind {
        int aimOf(Jumper one) {
            return 1;
        }

        int strideOf(Jumper one, int k, int wind) {
            return super.strideOf(one, k, wind) + k % 2;
        }

        int lengthOf(Jumper one, int b, int l, int wind) {
            return super.lengthOf(one, b, l, wind) + 3;
        }
    }

    private static class Looker extends Safe {
        int aimOf(Jumper one) {
            return super.aimOf(one) / 2;
        }
    }

    private static final class Winded extends Bold {
        int strideOf(Jumper one, int k, int wind) {
            return super.strideOf(one, k, wind) + wind * k / 10;
        }

        int lengthOf(Jumper one, int b, int l, int wind) {
            int length = super.lengthOf(one, b, l, wind) + wind;
            return length < 0 ? 0 : length;
        }
    }

    private static final class Steady extends Looker {
        int aimOf(Jumper one) {
            return super.aimOf(one) + 1;
        }

        int strideOf(Jumper one, int k, int wind) {
            return super.strideOf(one, k, wind) - wind * k / 10;
        }

        int lengthOf(Jumper one, int b, int l, int wind) {
            return super.lengthOf(one, b, l, wind) + 1;
        }
    }

    private static final class Jumper {
        Kind way;
        int kind;
        int figure;
        int stride;
        int grow;
        int slip;
        int pace;
        int look;
        int mark;

        Jumper(Kind way) {
            this.way = way;
        }

        void copyFrom(Jumper other) {
            way = other.way;
            kind = other.kind;
            figure = other.figure;
            stride = other.stride;
            grow = other.grow;
            slip = other.slip;
            pace = other.pace;
            look = other.look;
            mark = other.mark;
        }

        int property(int what) {
            switch (what) {
                case 0:
                    return kind;
                case 1:
                    return figure;
                case 2:
                    return stride;
                case 3:
                    return grow;
                case 4:
                    return slip;
                case 5:
                    return pace;
                case 6:
                    return look;
                case 7:
                    return mark;
                default:
                    return way.aimOf(this);
            }
        }

        int path(int strides, int wind) {
            int sum = 0;
            for (int k = 0; k < strides; k++) {
                sum += way.strideOf(this, k, wind);
            }
            return sum;
        }
    }

    // ---- the meet's state ----

    private static final class Meet {
        int strides = 10;
        int wind;
        int goOn = 2;
        int size;
        int tries;
        final Jumper[] jumpers = new Jumper[JUMPERS];
        final int[] who = new int[MOST_TRIES];
        final int[] off = new int[MOST_TRIES];
        // A LENGTH, FOUL or PASSED.
        final int[] result = new int[MOST_TRIES];
        // WIND may change behind a try: what WITHOUT FOULS asks is kept from the WIND it was made in.
        final int[] clean = new int[MOST_TRIES];

        Meet(Kind plain) {
            for (int i = 0; i < JUMPERS; i++) {
                jumpers[i] = new Jumper(plain);
            }
        }

        void copyFrom(Meet other) {
            strides = other.strides;
            wind = other.wind;
            goOn = other.goOn;
            size = other.size;
            tries = other.tries;
            for (int i = 0; i < JUMPERS; i++) {
                jumpers[i].copyFrom(other.jumpers[i]);
            }
            System.arraycopy(other.who, 0, who, 0, MOST_TRIES);
            System.arraycopy(other.off, 0, off, 0, MOST_TRIES);
            System.arraycopy(other.result, 0, result, 0, MOST_TRIES);
            System.arraycopy(other.clean, 0, clean, 0, MOST_TRIES);
        }

        Jumper at(int jumper) {
            return jumper < 0 || jumper >= JUMPERS ? jumpers[0] : jumpers[jumper];
        }

        int finalists() {
            return goOn < size ? goOn : size;
        }

        int round() {
            int finalists = finalists();
            if (size <= 0 || finalists <= 0) {
                return OVER;
            }
            return tries < 3 * size ? tries / size : Math.min(OVER, 3 + (tries - 3 * size) / finalists);
        }

        int inTurn(Ranking ranking) {
            int finalists = finalists();
            if (round() == OVER || size <= 0 || finalists <= 0) {
                return NONE;
            }
            if (tries < 3 * size) {
                return tries % size;
            }
            rank(ranking, 0, 3 * size);
            return ranking.at(finalists - 1 - (tries - 3 * size) % finalists);
        }

        // b below 0 is FOUL or PASSED.
        int record(int jumper, int b, int loss) {
            Jumper one = at(jumper);
            int told = b < 0 ? b : one.way.lengthOf(one, b, loss, wind);
            if (tries < MOST_TRIES) {
                who[tries] = jumper;
                off[tries] = b;
                result[tries] = told;
                clean[tries] = one.way.lengthOf(one, 0, 0, wind);
                tries++;
            }
            return told;
        }

        int lengthBy(int law, int t) {
            if (result[t] < 0) {
                return law == 2 && result[t] == FOUL ? clean[t] : 0;
            }
            return law == 1 ? result[t] + off[t] : result[t];
        }

        void rank(Ranking ranking, int law, int triesAsked) {
            ranking.start(size);
            for (int t = 0; t < triesAsked && t < tries; t++) {
                ranking.add(who[t], lengthBy(law, t));
            }
        }

        int leader(Ranking ranking) {
            rank(ranking, 0, tries);
            return size == 0 ? NONE : ranking.at(0);
        }

        int triesOf(int jumper) {
            int count = 0;
            for (int t = 0; t < tries; t++) {
                count += who[t] == jumper ? 1 : 0;
            }
            return count;
        }

        int triesWith(int told) {
            int count = 0;
            for (int t = 0; t < tries; t++) {
                count += result[t] == told ? 1 : 0;
            }
            return count;
        }

        int find(int jumper, int k) {
            int own = 0;
            for (int t = 0; t < tries; t++) {
                if (who[t] == jumper) {
                    if (own == k) {
                        return t;
                    }
                    own++;
                }
            }
            return -1;
        }
    }

    private static final class Ranking {
        private int size;
        private final int[] longest = new int[JUMPERS];
        private final int[] second = new int[JUMPERS];

        void start(int jumpers) {
            size = Math.max(0, Math.min(JUMPERS, jumpers));
            Arrays.fill(longest, 0);
            Arrays.fill(second, 0);
        }

        void add(int jumper, int length) {
            if (jumper < 0 || jumper >= JUMPERS) {
                return;
            }
            if (length > longest[jumper]) {
                second[jumper] = longest[jumper];
                longest[jumper] = length;
            } else if (length > second[jumper]) {
                second[jumper] = length;
            }
        }

        int longest(int jumper) {
            return jumper < 0 || jumper >= JUMPERS ? 0 : longest[jumper];
        }

        int secondLongest(int jumper) {
            return jumper < 0 || jumper >= JUMPERS ? 0 : second[jumper];
        }

        // How many stand ahead of one, had it one more try of this LENGTH.
        int ahead(int jumper, int length) {
            if (jumper < 0 || jumper >= size) {
                return size;
            }
            int own = Math.max(longest[jumper], length);
            int ownSecond = Math.max(second[jumper], Math.min(longest[jumper], length));
            int count = 0;
            for (int i = 0; i < size; i++) {
                boolean first = longest[i] != own ? longest[i] > own
                        : second[i] != ownSecond ? second[i] > ownSecond : i < jumper;
                count += i != jumper && first ? 1 : 0;
            }
            return count;
        }

        int at(int place) {
            for (int i = 0; i < size; i++) {
                if (ahead(i, 0) == place) {
                    return i;
                }
            }
            return 0;
        }
    }

    // ---- all slips ----

    private static final class Chances {
        // ways[n][n + s]: of 4 to the n ways, those by which n strides are s SLIPS longer together.
        private final long[][] ways = new long[MOST_STRIDES + 1][2 * MOST_STRIDES + 1];
        final long[] byLength = new long[MOST_LENGTH + 1];
        long all = 1;
        long fouls;
        long off;

        Chances() {
            ways[0][0] = 1;
            for (int n = 1; n <= MOST_STRIDES; n++) {
                for (int i = 0; i <= 2 * n - 2; i++) {
                    ways[n][i] += ways[n - 1][i];
                    ways[n][i + 1] += 2 * ways[n - 1][i];
                    ways[n][i + 2] += ways[n - 1][i];
                }
            }
        }

        // Counts all ways of one run, and how many of them take off just b behind.
        void spread(Jumper one, int strides, int wind, int place, int b) {
            Arrays.fill(byLength, 0L);
            fouls = 0;
            off = 0;
            int early = strides - one.look;
            if (early < 0 || strides > MOST_STRIDES || one.look < 0 || one.look > MOST_LOOK) {
                return;
            }
            all = 1L << (2 * strides);
            int aim = one.way.aimOf(one);
            for (int s = -early; s <= early; s++) {
                int behind = place - one.slip * s;
                int back = one.look > 0 ? (behind - aim) / 2 : 0;
                spreadLast(one, wind, behind - back, Math.abs(back) / 4, b, ways[early][early + s]);
            }
        }

        private void spreadLast(Jumper one, int wind, int place, int loss, int b, long weight) {
            for (int s = -one.look; s <= one.look; s++) {
                long w = weight * ways[one.look][one.look + s];
                int behind = place - one.slip * s;
                int length = behind < 0 ? 0 : one.way.lengthOf(one, behind, loss, wind);
                fouls += behind < 0 ? w : 0;
                off += behind == b ? w : 0;
                if (length >= 0 && length <= MOST_LENGTH) {
                    byLength[length] += w;
                }
            }
        }

        long meanWays() {
            long sum = 0;
            for (int v = 1; v <= MOST_LENGTH; v++) {
                sum += v * byLength[v];
            }
            return sum;
        }

        long waysPast(int v) {
            long sum = 0;
            for (int u = Math.max(0, v + 1); u <= MOST_LENGTH; u++) {
                sum += byLength[u];
            }
            return sum;
        }

        int share(long w) {
            return all <= 0 ? 0 : (int) (w * WHOLE / all);
        }
    }
}
