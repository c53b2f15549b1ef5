/**
 * Each refusal of each call: the last number that is taken, the first that is not, which of two is told,
 * that it is counted once, and that nothing else changes by it.
 */
public final class RefusalEdgeTest extends Checks {
    private interface Call {
        long on(MarkToBoard x);
    }

    private static final int LEAST = Integer.MIN_VALUE;
    private static final int MOST = Integer.MAX_VALUE;

    private static final int[] OFFS = {LEAST, -2, -1, 4, 5, MOST};

    public static void main(String[] args) {
        nobodies();
        letters();
        fields();
        sets();
        winds();
        strides();
        lengths();
        chances();
        bests();
        meets();
        tried();
        whats();
        aims();
        rows();
        ons();
        seeds();
        parts();
        pairs();
        restores();
        allInOrder();
        end();
    }

    // ---- a meet in the midst, and its twin ----

    /** Four JUMPERS, tries, an image, letters, a ROW, refusals: all that a refused call might spoil. */
    private static MarkToBoard midst() {
        MarkToBoard x = with("n05;w+2;g3;", statement(0, 5, 50, 0, 1, 50, 0, 254), statement(1, 4, 50, 0, 2, 50, 2, 260),
            statement(2, 0, 40, 0, 1, 40, 3, 205), statement(4, 3, 40, 1, 3, 50, 1, 210));
        x.image();
        tries(x, 5, -9, 8, -8, 3);
        feedAll(x, "w+5;t0");
        row(x, 12, 18, 3);
        x.restore();
        tries(x, 4, -9, 7, -8, 6);
        x.jumper(4, 0);
        x.feed(-1);
        return x;
    }

    private static void alike(String call, MarkToBoard x, MarkToBoard y, int counted) {
        for (int w = 0; w <= 16; w++) due(call + ", then count " + w, x.count(w), y.count(w) + (w == counted ? 1 : 0));
        for (int j = 0; j < 4; j++) {
            for (int w = 0; w <= 11; w++) due(call + ", then jumper " + j + " " + w, x.jumper(j, w), y.jumper(j, w));
            for (int k = 0; k < 6; k++) due(call + ", then tried " + j + " " + k, x.tried(j, k), y.tried(j, k));
            due(call + ", then stride " + j, x.stride(j, 3), y.stride(j, 3));
        }
        for (int w = 0; w <= 2; w++) due(call + ", then ranks " + w, x.ranks(w), y.ranks(w));
        due(call + ", then turn", x.turn(), y.turn());
        due(call + ", then unlike", x.unlike(), y.unlike());
        due(call + ", then gusts", x.gusts(0), y.gusts(0));
        due(call + ", then moved", x.moved(15), y.moved(15));
        due(call + ", then wind", x.wind(1), y.wind(1));
        feedAll(x, "3;");
        feedAll(y, "3;");
        due(call + ", then ground", x.ground(), y.ground());
        due(call + ", then judge", x.judge(), y.judge());
        due(call + ", then restore", x.restore(), y.restore());
        for (int w = 0; w <= 8; w++) due(call + ", then, restored, count " + w, x.count(w), y.count(w));
        due(call + ", then, restored, wind", x.wind(0), y.wind(0));
    }

    /** Refused with the number told, counted once, and nothing else is another than without the call. */
    private static void refused(String call, Call c, long want, int number) {
        MarkToBoard x = midst();
        due(call, c.on(x), want);
        alike(call, x, midst(), 10 - number);
    }

    private static void no(String call, Call c, int number) {
        refused(call, c, number, number);
    }

    private static void noFar(String call, Call c, int number) {
        refused(call, c, FAR - (long) number, number);
    }

    private static void noLong(String call, Call c, int number) {
        refused(call, c, BIG - number, number);
    }

    private static void taken(String call, Call c) {
        MarkToBoard x = midst();
        int before = refusals(x);
        c.on(x);
        due(call + " is not refused", refusals(x), before);
    }

    private static int refusals(MarkToBoard x) {
        int sum = 0;
        for (int r = 11; r <= 16; r++) sum += x.count(r);
        return sum;
    }

    // ---- -1 ----

    private static void nobodies() {
        about("-1 NOBODY: no such JUMPER");
        for (int j : OFFS) {
            String who = " of " + j;
            no("jumper" + who, x -> x.jumper(j, 0), -1);
            no("mark" + who, x -> x.mark(j, 0), -1);
            no("look" + who, x -> x.look(j, 0), -1);
            no("stride" + who, x -> x.stride(j, 0), -1);
            noFar("place" + who, x -> x.place(j), -1);
            no("length" + who, x -> x.length(j, 0, 0), -1);
            noLong("off" + who, x -> x.off(j, 0, 0), -1);
            noLong("mean" + who, x -> x.mean(j, 0, 0), -1);
            noLong("past" + who, x -> x.past(j, 0, 0), -1);
            no("bestLook" + who, x -> x.bestLook(j), -1);
            no("bestMark" + who, x -> x.bestMark(j, 0), -1);
            noFar("back" + who, x -> x.back(j, 0), -1);
            no("jump" + who, x -> x.jump(j, 0), -1);
            no("none" + who, x -> x.none(j, 0), -1);
            no("tried" + who, x -> x.tried(j, 0), -1);
            no("needs" + who, x -> x.needs(j, 0), -1);
            no("aim" + who, x -> x.aim(j, 1, 0, 0), -1);
            no("gusts" + who, x -> x.gusts(j), -1);
            noLong("on" + who, x -> x.on(j, 0), -1);
            no("seeds" + who, x -> x.seeds(j, 1, 0, 0), -1);
            no("parts" + who, x -> x.parts(j, 0), -1);
            no("practice" + who, x -> x.practice(j), -1);
            no("bestRun" + who, x -> x.bestRun(j), -1);
            no("markIn" + who, x -> x.markIn(j, 0), -1);
            noLong("fouled" + who, x -> x.fouled(j, 0), -1);
            no("better" + who, x -> x.better(j), -1);
            no("half" + who, x -> x.half(j), -1);
            no("safe" + who, x -> x.safe(j), -1);
        }
    }

    // ---- numbers at the edges ----

    private static void letters() {
        about("feed: -4; -6 (255; 96, too)");
        for (int v : new int[] {-1, -2, LEAST}) no("feed " + v, x -> x.feed(v), -4);
        for (int v : new int[] {256, 257, MOST}) no("feed " + v, x -> x.feed(v), -6);
    }

    private static void fields() {
        about("mark: -1; -4; -6 2400. look: -1; -4; -6 4");
        for (int j = 0; j < 4; j++) {
            int who = j;
            for (int v : new int[] {-1, LEAST}) {
                no("mark " + v, x -> x.mark(who, v), -4);
                no("look " + v, x -> x.look(who, v), -4);
            }
            for (int v : new int[] {2401, MOST}) no("mark " + v, x -> x.mark(who, v), -6);
            for (int v : new int[] {5, MOST}) no("look " + v, x -> x.look(who, v), -6);
            for (int v : new int[] {0, 1, 2399, 2400}) {
                taken("mark " + v, x -> x.mark(who, v));
                MarkToBoard x = midst();
                x.mark(who, v);
                due("mark " + v + " is there", x.jumper(who, 7), v);
            }
            for (int v = 0; v <= 4; v++) {
                int look = v;
                taken("look " + v, x -> x.look(who, look));
                MarkToBoard x = midst();
                x.look(who, v);
                due("look " + v + " is there", x.jumper(who, 6), v);
            }
        }
        no("-1 ahead of -4", x -> x.mark(4, -1), -1);
        no("-1 ahead of -6", x -> x.mark(-1, 2401), -1);
        no("-1 ahead of -4", x -> x.look(4, -1), -1);
        no("-1 ahead of -6", x -> x.look(-1, 5), -1);
    }

    private static void sets() {
        about("set: -2; -4; -6; -3 there are tries");
        for (int what : new int[] {-1, 2, LEAST, MOST}) {
            no("set " + what, x -> x.set(what, 4), -2);
            no("-2 ahead of -4", x -> x.set(what, -1), -2);
            no("-2 ahead of -6", x -> x.set(what, 21), -2);
        }
        for (int v : new int[] {3, 0, -1, LEAST}) no("STRIDES " + v + " ahead of -3", x -> x.set(0, v), -4);
        for (int v : new int[] {21, MOST}) no("STRIDES " + v + " ahead of -3", x -> x.set(0, v), -6);
        for (int v : new int[] {0, -1, LEAST}) no("GO ON " + v + " ahead of -3", x -> x.set(1, v), -4);
        for (int v : new int[] {5, 20, MOST}) no("GO ON " + v + " ahead of -3", x -> x.set(1, v), -6);
        for (int v = 4; v <= 20; v++) {
            int strides = v;
            no("there are tries", x -> x.set(0, strides), -3);
        }
        for (int v = 1; v <= 4; v++) {
            int goOn = v;
            no("there are tries", x -> x.set(1, goOn), -3);
        }
        MarkToBoard x = new MarkToBoard();
        for (int what : new int[] {-1, 2}) due("set " + what, x.set(what, 4), -2);
        due("3", x.set(0, 3), -4);
        due("21", x.set(0, 21), -6);
        due("0", x.set(1, 0), -4);
        due("5", x.set(1, 5), -6);
        due("STRIDES", x.count(3), 10);
        due("GO ON", x.count(4), 2);
        due("4", x.set(0, 4), 10);
        due("20", x.set(0, 20), 4);
        due("1", x.set(1, 1), 2);
        due("4", x.set(1, 4), 1);
        due("STRIDES", x.count(3), 20);
        due("GO ON", x.count(4), 4);
        due("refused", refusals(x), 6);
        setsBehindOneTry();
    }

    private static void setsBehindOneTry() {
        for (int told : new int[] {0, -9, -8}) {
            MarkToBoard x = with(ONE);
            tries(x, told);
            due("one try", x.set(0, 10), -3);
            due("one try", x.set(1, 4), -3);
            x.undo();
            due("none any more", x.set(0, 10), 4);
            due("none any more", x.set(1, 4), 2);
        }
    }

    private static void winds() {
        about("wind: refused as told: -4; -6 9");
        for (int v : new int[] {-10, LEAST}) noFar("wind " + v, x -> x.wind(v), -4);
        for (int v : new int[] {10, MOST}) noFar("wind " + v, x -> x.wind(v), -6);
        for (int v : new int[] {-9, 0, 9}) taken("wind " + v, x -> x.wind(v));
        about("back, markIn: -1; -4; -6 9");
        for (int v : new int[] {-10, LEAST}) {
            noFar("back " + v, x -> x.back(1, v), -4);
            no("markIn " + v, x -> x.markIn(1, v), -4);
            noFar("-1 ahead", x -> x.back(4, v), -1);
            no("-1 ahead", x -> x.markIn(4, v), -1);
        }
        for (int v : new int[] {10, MOST}) {
            noFar("back " + v, x -> x.back(1, v), -6);
            no("markIn " + v, x -> x.markIn(1, v), -6);
            noFar("-1 ahead", x -> x.back(-1, v), -1);
            no("-1 ahead", x -> x.markIn(-1, v), -1);
        }
        for (int v : new int[] {-9, 0, 9}) {
            taken("back " + v, x -> x.back(0, v));
            taken("markIn " + v, x -> x.markIn(0, v));
        }
    }

    private static void strides() {
        about("stride: -1; -4; -6 (STRIDES less 1)");
        for (int v : new int[] {-1, LEAST}) no("stride " + v, x -> x.stride(3, v), -4);
        for (int v : new int[] {5, 6, 19, 20, MOST}) no("stride " + v, x -> x.stride(3, v), -6);
        for (int v = 0; v < 5; v++) {
            int k = v;
            taken("stride " + v, x -> x.stride(3, k));
        }
        no("-1 ahead of -4", x -> x.stride(4, -1), -1);
        no("-1 ahead of -6", x -> x.stride(4, 5), -1);
        for (int n = 4; n <= 20; n++) {
            MarkToBoard x = with("n" + digits(n, 2) + ";j0040002000000;");
            due("the last of " + n, x.stride(0, n - 1), 40);
            due("one more than " + n, x.stride(0, n), -6);
        }
    }

    private static void lengths() {
        about("length: b (0 .. 300), l (0 .. 99). -1; -4; -6");
        for (int v : new int[] {-1, LEAST}) {
            no("b " + v, x -> x.length(2, v, 0), -4);
            no("l " + v, x -> x.length(2, 0, v), -4);
            no("-4 of b ahead of -6 of l", x -> x.length(2, v, 100), -4);
            no("-4 of l ahead of -6 of b", x -> x.length(2, 301, v), -4);
            no("both", x -> x.length(2, v, v), -4);
            no("-1 ahead", x -> x.length(4, v, 100), -1);
        }
        for (int v : new int[] {301, MOST}) {
            no("b " + v, x -> x.length(2, v, 0), -6);
            no("b " + v, x -> x.length(2, v, 99), -6);
            no("both", x -> x.length(2, v, v), -6);
            no("-1 ahead", x -> x.length(-1, v, 0), -1);
        }
        for (int v : new int[] {100, MOST}) {
            no("l " + v, x -> x.length(2, 0, v), -6);
            no("l " + v, x -> x.length(2, 300, v), -6);
        }
        for (int b : new int[] {0, 300}) for (int l : new int[] {0, 99}) taken("length " + b + " " + l, x -> x.length(2, b, l));
    }

    private static void chances() {
        about("off: -1; -4; -6 300; -2");
        for (int v : new int[] {-301, LEAST}) {
            noLong("off " + v, x -> x.off(0, v, 0), -4);
            noLong("-4 ahead of -2", x -> x.off(0, v, 2), -4);
            noLong("-1 ahead", x -> x.off(4, v, 2), -1);
        }
        for (int v : new int[] {301, MOST}) {
            noLong("off " + v, x -> x.off(0, v, 1), -6);
            noLong("-6 ahead of -2", x -> x.off(0, v, -1), -6);
            noLong("-1 ahead", x -> x.off(-1, v, -1), -1);
        }
        for (int p : new int[] {-1, 2, LEAST, MOST}) {
            noLong("off, part " + p, x -> x.off(0, 300, p), -2);
            noLong("off, part " + p, x -> x.off(0, -300, p), -2);
            noLong("mean, part " + p, x -> x.mean(0, 0, p), -2);
            noLong("mean, what " + p, x -> x.mean(0, p, 1), -2);
            noLong("mean, either " + p, x -> x.mean(0, p, p), -2);
            noLong("mean, -1 ahead", x -> x.mean(4, p, p), -1);
            noLong("past, part " + p, x -> x.past(0, 999, p), -2);
            noLong("past, part " + p, x -> x.past(0, 0, p), -2);
            noLong("past, -1 ahead", x -> x.past(4, 0, p), -1);
        }
        about("past: -1; -4; -6 999; -2");
        for (int v : new int[] {-1, LEAST}) {
            noLong("past " + v, x -> x.past(0, v, 0), -4);
            noLong("-4 ahead of -2", x -> x.past(0, v, 2), -4);
            noLong("-1 ahead", x -> x.past(4, v, 0), -1);
        }
        for (int v : new int[] {1000, MOST}) {
            noLong("past " + v, x -> x.past(0, v, 0), -6);
            noLong("-6 ahead of -2", x -> x.past(0, v, 2), -6);
            noLong("-1 ahead", x -> x.past(4, v, 0), -1);
        }
        for (int p = 0; p <= 1; p++) {
            int part = p;
            for (int b : new int[] {-300, 0, 300}) taken("off " + b, x -> x.off(3, b, part));
            for (int v : new int[] {0, 999}) taken("past " + v, x -> x.past(3, v, part));
            for (int w = 0; w <= 1; w++) {
                int what = w;
                taken("mean " + w, x -> x.mean(3, what, part));
            }
        }
    }

    private static void bests() {
        about("bestMark: v -1: for MEAN. -1; -4; -6 999");
        for (int v : new int[] {-2, LEAST}) {
            no("bestMark " + v, x -> x.bestMark(0, v), -4);
            no("-1 ahead", x -> x.bestMark(4, v), -1);
        }
        for (int v : new int[] {1000, MOST}) {
            no("bestMark " + v, x -> x.bestMark(0, v), -6);
            no("-1 ahead", x -> x.bestMark(4, v), -1);
        }
        for (int v : new int[] {-1, 0, 999}) taken("bestMark " + v, x -> x.bestMark(0, v));
    }

    // ---- the meet ----

    private static void meets() {
        about("jump: -1; -3 out of turn, OVER; -4; -6 300. none: -1; -2; -3 out of turn, OVER");
        // 1 is in turn.
        for (int j : new int[] {0, 2, 3}) {
            no("out of turn", x -> x.jump(j, 0), -3);
            no("-3 ahead of -4", x -> x.jump(j, -1), -3);
            no("-3 ahead of -6", x -> x.jump(j, 301), -3);
            no("out of turn", x -> x.none(j, 0), -3);
            no("out of turn", x -> x.none(j, 1), -3);
            no("-2 ahead of -3", x -> x.none(j, 2), -2);
        }
        for (int v : new int[] {-1, LEAST}) {
            no("jump " + v, x -> x.jump(1, v), -4);
            no("none " + v, x -> x.none(1, v), -2);
            no("-1 ahead", x -> x.jump(4, v), -1);
            no("-1 ahead", x -> x.none(4, v), -1);
        }
        for (int v : new int[] {301, MOST}) {
            no("jump " + v, x -> x.jump(1, v), -6);
            no("none " + v, x -> x.none(1, v), -2);
            no("-1 ahead", x -> x.jump(-1, v), -1);
            no("-1 ahead", x -> x.none(-1, v), -1);
        }
        no("none 2", x -> x.none(1, 2), -2);
        for (int v : new int[] {0, 300}) taken("jump " + v, x -> x.jump(1, v));
        for (int v : new int[] {0, 1}) taken("none " + v, x -> x.none(1, v));
        over();
        nobodyYet();
    }

    private static void over() {
        MarkToBoard x = with("j0550015000203;f;f;f;f;f;f;");
        due("OVER", x.jump(0, 0), -3);
        due("OVER ahead of -4", x.jump(0, -1), -3);
        due("OVER ahead of -6", x.jump(0, 301), -3);
        due("OVER", x.none(0, 0), -3);
        due("-2 ahead of OVER", x.none(0, 2), -2);
        due("-1 ahead of OVER", x.none(1, 2), -1);
        due("-1 ahead of OVER", x.jump(1, 0), -1);
        due("tries", x.count(2), 6);
        due("-1", x.count(11), 2);
        due("-2", x.count(12), 1);
        due("-3", x.count(13), 4);
    }

    private static void nobodyYet() {
        MarkToBoard x = new MarkToBoard();
        due("nobody", x.jump(0, 0), -1);
        due("nobody", x.none(0, 0), -1);
        due("nobody in turn", x.jump(-9, 0), -1);
        due("nobody in turn", x.none(-9, 0), -1);
        due("undo", x.undo(), -3);
        due("-1", x.count(11), 4);
        due("-3", x.count(13), 1);
        x = with("j0550015000203;j0550015000203;");
        due("OVER's -9 is nobody", x.jump(-9, 0), -1);
        due("undo", x.undo(), -3);
        tries(x, 0);
        due("undo", x.undo(), 0);
        due("undo", x.undo(), -3);
        due("-3", x.count(13), 2);
    }

    private static void tried() {
        about("tried: -1 (no such try, too)");
        // 0 has two tries, the others one.
        for (int k : new int[] {-1, 2, 3, 6, LEAST, MOST}) no("tried 0 " + k, x -> x.tried(0, k), -1);
        for (int k : new int[] {-1, 1, 2, LEAST, MOST}) no("tried 3 " + k, x -> x.tried(3, k), -1);
        for (int k = 0; k <= 1; k++) {
            int which = k;
            taken("tried 0 " + k, x -> x.tried(0, which));
        }
        taken("tried 3", x -> x.tried(3, 0));
        due("no tries", with(ONE).tried(0, 0), -1);
        MarkToBoard x = with(ONE + "t01;t02;f;p;t05;t06;");
        int[] told = {204, 203, -9, -8, 200, 199, -1};
        for (int k = 0; k < told.length; k++) due("tried " + k, x.tried(0, k), told[k]);
        x.undo();
        due("taken back", x.tried(0, 5), -1);
    }

    private static void whats() {
        about("-2 OTHER: what");
        for (int w : new int[] {-1, LEAST, MOST}) {
            no("jumper " + w, x -> x.jumper(0, w), -2);
            no("needs " + w, x -> x.needs(0, w), -2);
            no("ranks " + w, x -> x.ranks(w), -2);
            noLong("fouled " + w, x -> x.fouled(0, w), -2);
            no("jumper, -1 ahead", x -> x.jumper(4, w), -1);
            no("needs, -1 ahead", x -> x.needs(4, w), -1);
            noLong("fouled, -1 ahead", x -> x.fouled(4, w), -1);
        }
        no("jumper 12", x -> x.jumper(0, 12), -2);
        no("needs 2", x -> x.needs(0, 2), -2);
        no("ranks 3", x -> x.ranks(3), -2);
        noLong("fouled 2", x -> x.fouled(0, 2), -2);
        for (int w = 0; w <= 11; w++) {
            int what = w;
            taken("jumper " + w, x -> x.jumper(0, what));
            if (w <= 2) taken("ranks " + w, x -> x.ranks(what));
            if (w <= 1) taken("needs " + w, x -> x.needs(3, what));
            if (w <= 1) taken("fouled " + w, x -> x.fouled(3, what));
        }
        due("ranks of nobody", new MarkToBoard().ranks(3), -2);
    }

    private static void aims() {
        about("aim: -1; -4; -6 (m 3; v 999); -2");
        for (int v : new int[] {-1, LEAST}) {
            no("m " + v, x -> x.aim(0, v, 0, 0), -4);
            no("v " + v, x -> x.aim(0, 1, v, 0), -4);
            no("-4 of v ahead of -6 of m", x -> x.aim(0, 4, v, 0), -4);
            no("-4 of m ahead of -6 of v", x -> x.aim(0, v, 1000, 0), -4);
            no("-4 ahead of -2", x -> x.aim(0, 1, v, v), -4);
            no("-1 ahead", x -> x.aim(4, v, v, v), -1);
            no("what " + v, x -> x.aim(0, 3, 999, v), -2);
        }
        no("m 0", x -> x.aim(0, 0, 0, 0), -4);
        no("m 0, v 1000", x -> x.aim(0, 0, 1000, 2), -4);
        for (int v : new int[] {1000, MOST}) {
            no("m " + v, x -> x.aim(0, v, 999, 0), -6);
            no("v " + v, x -> x.aim(0, 3, v, 0), -6);
            no("both " + v, x -> x.aim(0, v, v, 0), -6);
            no("-6 ahead of -2", x -> x.aim(0, 3, v, 2), -6);
            no("-1 ahead", x -> x.aim(-1, v, v, v), -1);
            no("what " + v, x -> x.aim(0, 1, 0, v), -2);
        }
        no("m 4", x -> x.aim(0, 4, 0, 0), -6);
        no("m 4, -6 ahead of -2", x -> x.aim(0, 4, 0, 2), -6);
        no("what 2", x -> x.aim(0, 1, 0, 2), -2);
        for (int m : new int[] {1, 3}) {
            for (int v : new int[] {0, 999}) {
                for (int w : new int[] {0, 1}) taken("aim " + m + " " + v + " " + w, x -> x.aim(0, m, v, w));
            }
        }
    }

    // ---- the ROW ----

    private static void rows() {
        about("row: -4; -6 (99; 12, too)");
        for (int v : new int[] {-1, LEAST}) no("row " + v, x -> x.row(v), -4);
        for (int v : new int[] {100, MOST}) no("row " + v, x -> x.row(v), -6);
        for (int v : new int[] {0, 99}) taken("row " + v, x -> x.row(v));
        about("moved: -4 below 1; -6 99");
        for (int v : new int[] {0, -1, LEAST}) no("moved " + v, x -> x.moved(v), -4);
        for (int v : new int[] {100, MOST}) no("moved " + v, x -> x.moved(v), -6);
        for (int v : new int[] {1, 99}) taken("moved " + v, x -> x.moved(v));
        fullRow();
        emptyRow();
        windRow();
    }

    private static void fullRow() {
        about("row: 12 at most");
        MarkToBoard x = new MarkToBoard();
        for (int i = 1; i <= 12; i++) due("row", x.row(i), i);
        due("the 13th", x.row(50), -6);
        due("the 13th", x.row(0), -6);
        due("the 13th below", x.row(-1), -4);
        due("the 13th above", x.row(100), -6);
        due("how many", x.count(8), 12);
        due("unlike", x.unlike(), 11);
        due("-4", x.count(14), 1);
        due("-6", x.count(16), 3);
        due("clear", x.clear(), 12);
        due("room again", x.row(50), 1);
    }

    private static void emptyRow() {
        about("tooLong, unlike: -3 the ROW has none");
        MarkToBoard x = new MarkToBoard();
        due("tooLong", x.tooLong(), -3);
        due("unlike", x.unlike(), -3);
        due("-3", x.count(13), 2);
        due("moved", x.moved(1), -9);
        due("clear", x.clear(), 0);
        due("judge", x.judge(), -9);
        due("no more", x.count(13), 2);
        x.row(50);
        due("tooLong", x.tooLong(), 0);
        due("unlike", x.unlike(), 0);
        x.clear();
        due("tooLong", x.tooLong(), -3);
        due("unlike", x.unlike(), -3);
        x.row(50);
        x.judge();
        due("judged", x.tooLong(), -3);
        due("-3", x.count(13), 5);
    }

    private static void windRow() {
        about("gusts: -1; -3 one of the ROW above 18");
        for (int at = 0; at < 12; at++) {
            MarkToBoard x = with(ONE);
            for (int i = 0; i < 12; i++) x.row(i == at ? 19 : 18);
            due("19 at " + at, x.gusts(0), -3);
            due("-1 ahead", x.gusts(1), -1);
            due("it stays", x.clear(), 12);
            due("cleared", x.gusts(0), -9);
            x.row(18);
            due("18", x.gusts(0), 0);
            due("-3", x.count(13), 1);
            due("-1", x.count(11), 1);
        }
        MarkToBoard x = with(ONE);
        row(x, 99);
        due("99", x.gusts(0), -3);
        due("99 stays", x.unlike(), 0);
        due("no JUMPERS", new MarkToBoard().gusts(0), -1);
    }

    private static void ons() {
        about("on: -1; -2; -3 ROUND is above 2");
        for (int p : new int[] {-1, 2, LEAST, MOST}) {
            noLong("part " + p, x -> x.on(0, p), -2);
            noLong("-1 ahead", x -> x.on(4, p), -1);
        }
        MarkToBoard x = with(ONE);
        for (int made = 0; made <= 6; made++) {
            boolean open = made < 3;
            due("behind " + made + " tries", x.on(0, 0), open ? 1 : BIG + 3);
            due("behind " + made + " tries, below", x.on(0, 1), open ? 1 : BIG + 3);
            due("-2 ahead of -3", x.on(0, 2), BIG + 2);
            due("-1 ahead of -3", x.on(1, 0), BIG + 1);
            if (made < 6) tries(x, -9);
        }
        due("-3", x.count(13), 8);
        due("no JUMPERS", new MarkToBoard().on(0, 2), BIG + 1);
    }

    private static void seeds() {
        about("seeds: -1; -4; -6 20; -2");
        for (int v : new int[] {0, -1, LEAST}) {
            no("n " + v, x -> x.seeds(0, v, 7, 0), -4);
            no("-4 ahead of -2", x -> x.seeds(0, v, 7, 2), -4);
            no("-1 ahead", x -> x.seeds(4, v, 7, 2), -1);
        }
        for (int v : new int[] {21, MOST}) {
            no("n " + v, x -> x.seeds(0, v, 7, 0), -6);
            no("-6 ahead of -2", x -> x.seeds(0, v, 7, 2), -6);
            no("-1 ahead", x -> x.seeds(-1, v, 7, 2), -1);
        }
        for (int v : new int[] {-1, 2, LEAST, MOST}) no("what " + v, x -> x.seeds(0, 20, 7, v), -2);
        for (int n : new int[] {1, 20}) {
            for (int w : new int[] {0, 1}) {
                taken("seeds " + n, x -> x.seeds(0, n, LEAST, w));
                taken("seeds " + n, x -> x.seeds(3, n, MOST, w));
            }
        }
    }

    private static void parts() {
        about("parts: -1; -4; -6 999");
        for (int v : new int[] {-1, LEAST}) {
            no("parts " + v, x -> x.parts(0, v), -4);
            no("-1 ahead", x -> x.parts(4, v), -1);
        }
        for (int v : new int[] {1000, MOST}) {
            no("parts " + v, x -> x.parts(0, v), -6);
            no("-1 ahead", x -> x.parts(4, v), -1);
        }
        for (int v : new int[] {0, 999}) taken("parts " + v, x -> x.parts(0, v));
    }

    private static void pairs() {
        about("more: -1 two. duel: -1 two; -2");
        for (int j : OFFS) {
            no("more", x -> x.more(j, 0), -1);
            no("more", x -> x.more(3, j), -1);
            no("more", x -> x.more(j, j), -1);
            no("duel", x -> x.duel(j, 0, 0), -1);
            no("duel", x -> x.duel(3, j, 0), -1);
            no("-1 ahead of -2", x -> x.duel(j, 0, 3), -1);
            no("-1 ahead of -2", x -> x.duel(0, j, -1), -1);
        }
        for (int j = 0; j < 4; j++) {
            int who = j;
            no("the same", x -> x.more(who, who), -1);
            no("the same", x -> x.duel(who, who, 0), -1);
            no("the same ahead of -2", x -> x.duel(who, who, 3), -1);
        }
        for (int w : new int[] {-1, 3, LEAST, MOST}) no("what " + w, x -> x.duel(0, 3, w), -2);
        for (int w = 0; w <= 2; w++) {
            int what = w;
            taken("duel", x -> x.duel(0, 3, what));
            taken("duel", x -> x.duel(3, 0, what));
        }
        taken("more", x -> x.more(0, 3));
        taken("more", x -> x.more(3, 0));
    }

    private static void restores() {
        about("restore: -3 there is none. undo: -3 there is none");
        MarkToBoard x = with(ONE);
        due("restore", x.restore(), -3);
        due("undo", x.undo(), -3);
        due("-3", x.count(13), 2);
        due("JUMPERS stay", x.count(0), 1);
        due("image", x.image(), 0);
        due("restore", x.restore(), 0);
        due("undo", x.undo(), -3);
        due("-3", x.count(13), 3);
    }

    private static void allInOrder() {
        about("how many there were: each by its own number");
        MarkToBoard x = with("j0550015000203;j0550015000203;");
        int[] want = {0, 0, 0, 0, 0, 0, 0};
        for (int round = 1; round <= 5; round++) {
            for (int i = 0; i < round; i++) x.jumper(2, 0);
            for (int i = 0; i < 2 * round; i++) x.ranks(3);
            for (int i = 0; i < 3 * round; i++) x.jump(1, 0);
            for (int i = 0; i < 4 * round; i++) x.row(-1);
            for (int i = 0; i < 6 * round; i++) x.feed(256);
            int[] more = {0, 1, 2, 3, 4, 0, 6};
            for (int r = 1; r <= 6; r++) {
                want[r] += more[r] * round;
                due("REFUSALS -" + r, x.count(10 + r), want[r]);
            }
        }
        due("a call that is -9 is no refusal", x.count(17) + x.moved(1) + x.gusts(0) + x.half(0), -36);
        due("-3", x.count(13), want[3]);
        due("no tries", x.count(2), 0);
    }
}
