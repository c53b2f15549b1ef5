import java.util.Random;

/** Random runs of calls on the class and on the model: each answer must be the same. */
public final class SideBySideTest {
    private static final int RUNS = 300;
    private static final int CALLS = 512;
    private static int wrong = 0;

    private final Random random;
    private final MarkToBoard x = new MarkToBoard();
    private final Model y = new Model();
    private final StringBuilder log = new StringBuilder();
    private int calls = 0;

    private SideBySideTest(long seed) {
        random = new Random(seed);
    }

    public static void main(String[] args) {
        for (int run = 0; run < RUNS && wrong < 10; run++) new SideBySideTest(run).go(run);
        System.out.println(wrong == 0 ? "all alike" : wrong + " runs differ");
        if (wrong != 0) System.exit(1);
    }

    private void go(int run) {
        if (random.nextInt(4) > 0) {
            if (feedAll(start()) != 0) wrong++;
            ground();
        }
        int shape = random.nextInt(3);
        while (calls < CALLS) {
            long[] pair = random.nextInt(10) < shape * 3 ? tryOn() : step();
            if (pair[0] != pair[1]) {
                wrong++;
                System.out.println("run " + run + ", call " + calls + ": got " + pair[0] + ", model " + pair[1] + log);
                return;
            }
        }
    }

    private int feedAll(String text) {
        for (int i = 0; i < text.length(); i++) {
            calls++;
            int a = x.feed(text.charAt(i));
            int b = y.feed(text.charAt(i));
            if (a != b) return 1;
        }
        log.append("\n  text ").append(text);
        return 0;
    }

    private long[] ground() {
        return told("ground", x.ground(), y.ground());
    }

    private long[] told(String call, long a, long b) {
        calls++;
        log.append("\n  ").append(call).append(" ").append(a);
        return new long[] {a, b};
    }

    private int below(int n) {
        return random.nextInt(n);
    }

    private int odd(int least, int most) {
        int r = below(20);
        if (below(200) == 0) return r < 10 ? Integer.MIN_VALUE : Integer.MAX_VALUE;
        return r == 0 ? least - 1 : r == 1 ? most + 1 : r == 2 ? least : r == 3 ? most : least + below(most - least + 1);
    }

    private int who() {
        return below(15) == 0 ? odd(-1, 4) : below(Math.max(1, y.count(0)));
    }

    private String start() {
        StringBuilder b = new StringBuilder();
        int n = 4 + (below(3) == 0 ? below(17) : below(5));
        b.append("n").append(two(n)).append(";g").append(1 + below(4)).append(";");
        if (below(2) == 0) b.append("w").append(below(2) == 0 ? "+" : "-").append(below(10)).append(";");
        int size = 1 + below(4);
        for (int j = 0; j < size; j++) b.append(jumper(n));
        return b.toString();
    }

    private static String two(int v) {
        return v < 10 ? "0" + v : "" + v;
    }

    private String jumper(int n) {
        int stride = 40 + below(below(3) == 0 ? 60 : 6);
        int grow = below(10);
        int mark = n * stride + below(20);
        for (int k = 0; k < n; k++) mark += grow * k / 10;
        mark = Math.min(2400, Math.max(0, below(6) == 0 ? below(2401) : mark));
        int pace = below(3) == 0 ? 20 + below(80) : 20 + below(4);
        return "j" + below(6) + below(10) + stride + grow + below(7) + pace + below(5)
            + (10000 + mark + "").substring(1) + ";";
    }

    private String statements() {
        StringBuilder b = new StringBuilder();
        int n = 1 + below(4);
        for (int i = 0; i < n; i++) {
            switch (below(9)) {
                case 0: b.append("n").append(two(odd(4, 20))).append(";"); break;
                case 1: b.append("w").append("+-".charAt(below(2))).append(below(10)).append(";"); break;
                case 2: b.append("g").append(odd(1, 4)).append(";"); break;
                case 3: b.append(jumper(10)); break;
                case 4: b.append("f;"); break;
                case 5: b.append("p;"); break;
                default: b.append("t").append(two(below(100))).append(";"); break;
            }
        }
        if (below(3) == 0) b.setCharAt(below(b.length()), "0359;jnwgtfp+-x".charAt(below(15)));
        if (below(6) == 0) b.setLength(below(b.length() + 1));
        return b.toString();
    }

    private long[] tryOn() {
        int w = y.turn();
        if (w < 0) return below(4) == 0 ? told("undo", x.undo(), y.undo()) : step();
        int r = below(10);
        if (r < 2) return told("none " + w, x.none(w, r), y.none(w, r));
        int b = below(30);
        return told("jump " + w + " " + b, x.jump(w, b), y.jump(w, b));
    }

    private long[] step() {
        int j = who();
        int k = who();
        int part = odd(0, 1);
        int what = odd(0, 1);
        int length = below(4) == 0 ? odd(0, 999) : below(3) == 0 ? below(450) : y.likely(j, below(40), below(9));
        switch (below(54)) {
            case 0: case 1: {
                if (calls > CALLS - 100) break;
                if (feedAll(statements()) != 0) return new long[] {0, 1};
                return ground();
            }
            case 2: { int c = below(2) == 0 ? odd(0, 255) : ';'; return told("feed " + c, x.feed(c), y.feed(c)); }
            case 3: { int w = odd(0, 11); return told("jumper " + j + " " + w, x.jumper(j, w), y.jumper(j, w)); }
            case 4: { int v = below(2) == 0 ? odd(0, 2400) : near(j); return told("mark " + j + " " + v, x.mark(j, v), y.mark(j, v)); }
            case 5: { int v = odd(0, 4); return told("look " + j + " " + v, x.look(j, v), y.look(j, v)); }
            case 6: { int v = what == 0 ? odd(4, 20) : odd(1, 4); return told("set " + what + " " + v, x.set(what, v), y.set(what, v)); }
            case 7: { int v = odd(-9, 9); return told("wind " + v, x.wind(v), y.wind(v)); }
            case 8: { int v = odd(0, 19); return told("stride " + j + " " + v, x.stride(j, v), y.stride(j, v)); }
            case 9: return told("place " + j, x.place(j), y.place(j));
            case 10: { int b = odd(0, 300); int l = odd(0, 99); return told("length " + j + " " + b + " " + l, x.length(j, b, l), y.length(j, b, l)); }
            case 11: { int b = below(2) == 0 ? odd(-300, 300) : below(40) - 15; return told("off " + j + " " + b + " " + part, x.off(j, b, part), y.off(j, b, part)); }
            case 12: return told("mean " + j + " " + what + " " + part, x.mean(j, what, part), y.mean(j, what, part));
            case 13: return told("past " + j + " " + length + " " + part, x.past(j, length, part), y.past(j, length, part));
            case 14: return told("bestLook " + j, x.bestLook(j), y.bestLook(j));
            case 15: { int v = below(2) == 0 ? -1 : below(6) == 0 ? odd(-1, 999) : length; return told("bestMark " + j + " " + v, x.bestMark(j, v), y.bestMark(j, v)); }
            case 16: { int w = odd(-9, 9); return told("back " + j + " " + w, x.back(j, w), y.back(j, w)); }
            case 17: return told("turn", x.turn(), y.turn());
            case 18: { int b = odd(0, 300); return told("jump " + j + " " + b, x.jump(j, b), y.jump(j, b)); }
            case 19: return told("none " + j + " " + what, x.none(j, what), y.none(j, what));
            case 20: if (below(3) > 0) break; return told("undo", x.undo(), y.undo());
            case 21: { int v = odd(0, 5); return told("tried " + j + " " + v, x.tried(j, v), y.tried(j, v)); }
            case 22: return told("needs " + j + " " + what, x.needs(j, what), y.needs(j, what));
            case 23: { int w = odd(0, 2); return told("ranks " + w, x.ranks(w), y.ranks(w)); }
            case 24: return told("leads", x.leads(), y.leads());
            case 25: return told("goOn", x.goOn(), y.goOn());
            case 26: { int m = odd(1, 3); return told("aim " + j + " " + m + " " + length + " " + what, x.aim(j, m, length, what), y.aim(j, m, length, what)); }
            case 27: return told("tooLong", x.tooLong(), y.tooLong());
            case 28: return told("unlike", x.unlike(), y.unlike());
            case 29: { int v = below(2) == 0 ? odd(1, 99) : 1 + below(5); return told("moved " + v, x.moved(v), y.moved(v)); }
            case 30: return told("gusts " + j, x.gusts(j), y.gusts(j));
            case 31: return told("on " + j + " " + part, x.on(j, part), y.on(j, part));
            case 32: case 33: case 34: case 35: { int v = below(5) == 0 ? odd(0, 99) : j % 2 == 0 ? below(19) : 40 + below(40); return told("row " + v, x.row(v), y.row(v)); }
            case 36: return told("judge", x.judge(), y.judge());
            case 37: if (below(2) > 0) break; return told("clear", x.clear(), y.clear());
            case 38: { int n = odd(1, 20); int z = random.nextInt(); return told("seeds " + j + " " + n + " " + z + " " + what, x.seeds(j, n, z, what), y.seeds(j, n, z, what)); }
            case 39: return told("parts " + j + " " + length, x.parts(j, length), y.parts(j, length));
            case 40: return told("more " + j + " " + k, x.more(j, k), y.more(j, k));
            case 41: { int w = odd(0, 2); return told("duel " + j + " " + k + " " + w, x.duel(j, k, w), y.duel(j, k, w)); }
            case 42: return told("practice " + j, x.practice(j), y.practice(j));
            case 43: return told("bestRun " + j, x.bestRun(j), y.bestRun(j));
            case 44: { int w = odd(-9, 9); return told("markIn " + j + " " + w, x.markIn(j, w), y.markIn(j, w)); }
            case 45: return told("fouled " + j + " " + part, x.fouled(j, part), y.fouled(j, part));
            case 46: return told("better " + j, x.better(j), y.better(j));
            case 47: return told("half " + j, x.half(j), y.half(j));
            case 48: return told("safe " + j, x.safe(j), y.safe(j));
            case 49: return told("mayStill", x.mayStill(), y.mayStill());
            case 50: return told("image", x.image(), y.image());
            case 51: if (below(3) > 0) break; return told("restore", x.restore(), y.restore());
            default: { int w = odd(0, 16); return told("count " + w, x.count(w), y.count(w)); }
        }
        calls++;
        return new long[] {0, 0};
    }

    /** A MARK by which PLACE is little behind the edge. */
    private int near(int j) {
        return Math.max(0, Math.min(2400, y.markFor(j) + below(20)));
    }
}
