import java.util.Arrays;

/** The edges that the terms ahead of promise 1 name: numbers of JUMPERS, strides, looks, LENGTHS, the meet. */
public final class TermsEdgeTest extends Checks {
    public static void main(String[] args) {
        strideNumbers();
        windNumbers();
        goOnNumbers();
        jumperNumbers();
        jumperFields();
        firstStride();
        cutParts();
        eachKindsStride();
        places();
        aims();
        slips();
        nearLooks();
        looksOverTheEdge();
        looksWithSlips();
        lookAtOnce();
        lengthsNearNought();
        lengthsFar();
        meetsOfAllSizes();
        finalistsByRank();
        overAndBack();
        triesWithoutLoss();
        rankTies();
        ranksOfNothing();
        jumpersOnlyAhead();
        end();
    }

    // ---- numbers ----

    private static void strideNumbers() {
        about("STRIDES (4 .. 20; 10 at first)");
        due("at first", new MarkToBoard().count(3), 10);
        for (int v = 0; v <= 99; v++) {
            boolean fits = v >= 4 && v <= 20;
            MarkToBoard x = new MarkToBoard();
            due("n" + v, tell(x, "n" + digits(v, 2) + ";"), fits ? 1 : -2000);
            due("n" + v + " told", x.count(3), fits ? v : 10);
        }
    }

    private static void windNumbers() {
        about("WIND (-9 .. 9; 0 at first)");
        due("at first", new MarkToBoard().wind(3), 0);
        for (int v = -9; v <= 9; v++) {
            MarkToBoard x = with(winds(v));
            due("w" + v, x.wind(-v), v);
            due("the other", x.wind(0), -v);
        }
        due("w-0", with("w+9;w-0;").wind(0), 0);
    }

    private static void goOnNumbers() {
        about("GO ON (1 .. 4; 2 at first)");
        due("at first", new MarkToBoard().count(4), 2);
        for (int v = 0; v <= 9; v++) {
            boolean fits = v >= 1 && v <= 4;
            MarkToBoard x = new MarkToBoard();
            due("g" + v, tell(x, "g" + v + ";"), fits ? 1 : -2000);
            due("g" + v + " told", x.count(4), fits ? v : 2);
        }
    }

    private static void jumperNumbers() {
        about("JUMPERS 0 .. 3 as they come");
        MarkToBoard x = new MarkToBoard();
        for (int j = 0; j < 4; j++) {
            due("not yet " + j, x.jumper(j, 0), -1);
            due("comes " + j, tell(x, statement(j, 9 - j, 50 + j, j, j, 60 + j, j, 500 + j)), 1);
            due("JUMPERS", x.count(0), j + 1);
        }
        for (int j = 0; j < 4; j++) {
            int[] want = {j, 9 - j, 50 + j, j, j, 60 + j, j, 500 + j};
            for (int w = 0; w < want.length; w++) due("jumper " + j + " " + w, x.jumper(j, w), want[w]);
        }
        due("a fifth", tell(x, statement(0, 0, 40, 0, 0, 20, 0, 0)), -2000);
        due("a fifth behind WIND", tell(x, "w+1;" + statement(0, 0, 40, 0, 0, 20, 0, 0)), -2004);
        due("JUMPERS", x.count(0), 4);
        due("jumper 4", x.jumper(4, 0), -1);
        due("five at once", tell(new MarkToBoard(), "j0040002000000;".repeat(5)), -2060);
    }

    private static void jumperFields() {
        about("KIND, FIGURE (0 .. 9), STRIDE (40 .. 99), GROW (0 .. 9), SLIP (0 .. 6), PACE (20 .. 99), LOOK (0 .. 4), MARK (0 .. 2400)");
        int[] least = {0, 0, 40, 0, 0, 20, 0, 0};
        int[] most = {5, 9, 99, 9, 6, 99, 4, 2400};
        int[] told = {9, 9, 99, 9, 9, 99, 9, 9999};
        for (int w = 0; w < 8; w++) {
            int[] tries = {0, least[w] - 1, least[w], least[w] + 1, most[w] - 1, most[w], most[w] + 1, told[w]};
            for (int v : tries) {
                if (v >= 0 && v <= told[w]) fieldOf(w, v, v >= least[w] && v <= most[w]);
            }
        }
        due("all the least", tell(new MarkToBoard(), statement(least)), 1);
        due("all the most", tell(new MarkToBoard(), statement(most)), 1);
    }

    private static void fieldOf(int what, int v, boolean fits) {
        int[] fields = {0, 5, 50, 5, 1, 50, 0, 500};
        fields[what] = v;
        MarkToBoard x = new MarkToBoard();
        due("field " + what + " being " + v, tell(x, statement(fields)), fits ? 1 : -2000);
        due("JUMPERS", x.count(0), fits ? 1 : 0);
        if (fits) due("field " + what, x.jumper(0, what), v);
    }

    // ---- strides ----

    private static void firstStride() {
        about("The k-th stride (0 ..)");
        for (int kind = 0; kind < 6; kind++) {
            for (int wind = -9; wind <= 9; wind += 9) {
                MarkToBoard x = with(winds(wind) + statement(kind, 9, 99, 9, 0, 50, 0, 0));
                due("stride 0 of kind " + kind + " in " + wind, x.stride(0, 0), 99);
            }
        }
    }

    private static void cutParts() {
        about("GROW times k by 10, cut, more, and WIND times k by 10, cut toward 0");
        int[][] want = {
            // GROW, WIND, k, more than STRIDE
            {9, 0, 1, 0}, {5, 0, 1, 0}, {5, 0, 2, 1}, {9, 0, 19, 17}, {9, 0, 10, 9}, {1, 0, 9, 0}, {1, 0, 10, 1},
            {0, 9, 1, 0}, {0, 5, 2, 1}, {0, 9, 19, 17}, {0, -9, 1, 0}, {0, -5, 2, -1}, {0, -9, 2, -1}, {0, -9, 19, -17},
            {0, -1, 9, 0}, {0, -1, 10, -1}, {0, -1, 19, -1},
            // each by itself: not of both together
            {5, 5, 1, 0}, {9, 9, 1, 0}, {5, 5, 3, 2}, {5, -4, 1, 0}, {9, -1, 1, 0}, {5, -5, 3, 0}, {9, -4, 9, 5}
        };
        for (int[] w : want) {
            MarkToBoard x = with("n20;" + winds(w[1]) + statement(0, 0, 50, w[0], 0, 50, 0, 0));
            due("GROW " + w[0] + ", WIND " + w[1] + ", k " + w[2], x.stride(0, w[2]), 50 + w[3]);
        }
    }

    private static void eachKindsStride() {
        about("BOLD and k modulo 2; WINDED WIND's part once more; STEADY less its WIND's part");
        // k 1, 3, 18, 19 with GROW 5: 0, 1, 9, 9; with WIND 5 as much, with WIND -9: 0, -2, -16, -17.
        int[] ks = {1, 3, 18, 19};
        int[][] plus = {{0, 2, 18, 18}, {0, 2, 18, 18}, {1, 3, 18, 19}, {0, 2, 18, 18}, {1, 4, 27, 28}, {0, 1, 9, 9}};
        int[][] minus = {{0, -1, -7, -8}, {0, -1, -7, -8}, {1, 0, -7, -7}, {0, -1, -7, -8}, {1, -2, -23, -24}, {0, 1, 9, 9}};
        for (int kind = 0; kind < 6; kind++) {
            MarkToBoard x = with("n20;w+5;" + statement(kind, 0, 60, 5, 0, 50, 0, 0));
            for (int i = 0; i < ks.length; i++) due("kind " + kind + ", stride " + ks[i], x.stride(0, ks[i]), 60 + plus[kind][i]);
            x.wind(-9);
            for (int i = 0; i < ks.length; i++) due("kind " + kind + ", stride " + ks[i], x.stride(0, ks[i]), 60 + minus[kind][i]);
        }
    }

    private static void places() {
        about("PLACE: MARK less all STRIDES together (below 0: over it)");
        MarkToBoard x = with("n04;" + statement(0, 0, 50, 0, 0, 50, 0, 200));
        due("on the edge", x.place(0), 0);
        x.mark(0, 199);
        due("over it", x.place(0), -1);
        x.mark(0, 201);
        due("behind it", x.place(0), 1);
        x.set(0, 5);
        due("one STRIDE more", x.place(0), -49);
        due("the farthest behind", with("n04;" + statement(0, 0, 40, 0, 0, 50, 0, 2400)).place(0), 2240);
        // WINDED: 99, GROW 9 and WIND 9 twice: of k 0 .. 19 together 3 times 162, and 10 odd ones.
        due("the farthest over", with("n20;w+9;" + statement(4, 0, 99, 9, 0, 50, 0, 0)).place(0), -(20 * 99 + 3 * 162 + 10));
        due("against the wind", with("n20;w-9;" + statement(4, 0, 40, 0, 0, 50, 0, 0)).place(0), -(20 * 40 - 2 * 162 + 10));
    }

    private static void aims() {
        about("AIM");
        int[] least = {0, 2, 1, 1, 1, 2};
        int[] odd = {0, 3, 1, 1, 1, 2};
        int[] most = {0, 11, 1, 5, 1, 6};
        for (int kind = 0; kind < 6; kind++) {
            due("FIGURE 0, kind " + kind, with(statement(kind, 0, 50, 0, 0, 50, 0, 0)).jumper(0, 8), least[kind]);
            due("FIGURE 1, kind " + kind, with(statement(kind, 1, 50, 0, 0, 50, 0, 0)).jumper(0, 8), odd[kind]);
            due("FIGURE 9, kind " + kind, with(statement(kind, 9, 50, 0, 0, 50, 0, 0)).jumper(0, 8), most[kind]);
        }
    }

    // ---- slips and looks ----

    private static void slips() {
        about("Each stride is SLIP longer in one of four, as told in two, SLIP shorter in one, each by itself");
        MarkToBoard x = with("n04;" + statement(0, 0, 50, 0, 6, 50, 0, 210));
        int[] ways = {1, 8, 28, 56, 70, 56, 28, 8, 1};
        for (int s = -4; s <= 4; s++) {
            long g = gcd(ways[s + 4], 256);
            part("off " + (10 + 6 * s), x.off(0, 10 + 6 * s, 0), x.off(0, 10 + 6 * s, 1), ways[s + 4] / g, 256 / g);
            part("between", x.off(0, 11 + 6 * s, 0), x.off(0, 11 + 6 * s, 1), 0, 1);
        }
        part("past all", x.off(0, 40, 0), x.off(0, 40, 1), 0, 1);
        x = with("n04;" + statement(0, 0, 50, 0, 0, 50, 0, 210));
        part("SLIP 0", x.off(0, 10, 0), x.off(0, 10, 1), 1, 1);
        part("SLIP 0, another", x.off(0, 9, 0), x.off(0, 9, 1), 0, 1);
    }

    private static long gcd(long a, long b) {
        return b == 0 ? a : gcd(b, a % b);
    }

    private static void lookedAt(MarkToBoard x, int look, int b, int length) {
        x.look(0, look);
        part("LOOK " + look + ", takes off", x.off(0, b, 0), x.off(0, b, 1), 1, 1);
        part("LOOK " + look + ", LENGTH", x.mean(0, 1, 0), x.mean(0, 1, 1), length, 1);
        part("LOOK " + look + ", FOULS", x.mean(0, 0, 0), x.mean(0, 0, 1), b < 0 ? 1 : 0, 1);
        due("LOOK " + look + ", six by a seed", x.seeds(0, 1, 1, 1), 6 * length);
    }

    private static void nearLooks() {
        about("it takes back d by 2, cut toward 0, and loses a fourth of that, cut");
        // d of a JUMPER with AIM 0; b; LENGTH 200 less b less 2 LOSS
        int[][] behind = {{0, 0, 200}, {1, 1, 199}, {2, 1, 199}, {3, 2, 198}, {7, 4, 196}, {8, 4, 194}, {9, 5, 193}, {15, 8, 190}, {16, 8, 188},
            {-1, -1, 0}, {-2, -1, 0}, {-3, -2, 0}};
        for (int[] d : behind) {
            MarkToBoard x = with("n04;" + statement(0, 0, 50, 0, 0, 50, 0, 200 + d[0]));
            for (int look = 1; look <= 4; look++) lookedAt(x, look, d[1], d[2]);
            lookedAt(x, 0, d[0], d[0] < 0 ? 0 : 200 - d[0]);
        }
    }

    private static void looksOverTheEdge() {
        about("it comes so much nearer to AIM; without sign; over it: a FOUL");
        // SAFE, FIGURE 9: AIM 11; LENGTH 206 less b less 2 LOSS
        int[][] before = {{-1, 10, 196}, {-2, 10, 196}, {-3, 9, 197}, {-7, 7, 199}, {-8, 7, 197}, {-9, 6, 198}, {-11, 5, 199},
            {-21, 0, 202}, {-22, 0, 202}, {-23, -1, 0}, {-24, -1, 0}, {1, 12, 194}, {8, 15, 189}};
        for (int[] d : before) {
            MarkToBoard x = with("n04;" + statement(1, 9, 50, 0, 0, 50, 0, 211 + d[0]));
            for (int look = 1; look <= 4; look++) lookedAt(x, look, d[1], d[2]);
        }
    }

    private static void looksWithSlips() {
        about("how far behind it would take off, were all other strides as told");
        // LOOK 3 of 4, SLIP 2: behind the first stride 2, 0, -2, of which 1, 0, -1 is left; then 2 times -3 .. 3.
        MarkToBoard x = with("n04;" + statement(0, 0, 50, 0, 2, 50, 3, 200));
        part("1", x.off(0, 1, 0), x.off(0, 1, 1), 35, 256);
        part("-1", x.off(0, -1, 0), x.off(0, -1, 1), 35, 256);
        part("0", x.off(0, 0, 0), x.off(0, 0, 1), 5, 32);
        part("7", x.off(0, 7, 0), x.off(0, 7, 1), 1, 256);
        part("-7", x.off(0, -7, 0), x.off(0, -7, 1), 1, 256);
        part("8", x.off(0, 8, 0), x.off(0, 8, 1), 0, 1);
        part("6", x.off(0, 6, 0), x.off(0, 6, 1), 1, 128);
        part("5", x.off(0, 5, 0), x.off(0, 5, 1), 7, 256);
    }

    private static void lookAtOnce() {
        about("as LOOK strides are left (4 of 4: at once)");
        MarkToBoard x = with("n04;" + statement(0, 0, 50, 0, 1, 50, 4, 208));
        // 8 behind, 4 taken back, LOSS 1 for sure; then all four slip.
        part("4", x.off(0, 4, 0), x.off(0, 4, 1), 35, 128);
        part("8", x.off(0, 8, 0), x.off(0, 8, 1), 1, 256);
        part("0", x.off(0, 0, 0), x.off(0, 0, 1), 1, 256);
        part("MEAN", x.mean(0, 1, 0), x.mean(0, 1, 1), 194, 1);
    }

    // ---- LENGTHS ----

    private static void lengthsNearNought() {
        about("LENGTH: 0 at least behind each");
        // In WIND -9 a JUMPER of PACE 20, FIGURE 0 has 62 with b 0.
        int[][] want = {
            {0, 61, 1}, {0, 62, 0}, {0, 63, 0}, {1, 58, 1}, {1, 59, 0}, {1, 60, 0}, {1, 63, 0}, {2, 61, 4}, {2, 62, 3}, {2, 63, 3},
            {3, 58, 1}, {3, 59, 0}, {3, 61, 0}, {4, 55, 1}, {4, 56, 0}, {4, 57, 0}, {4, 62, 0}, {4, 300, 0},
            {5, 58, 2}, {5, 59, 1}, {5, 60, 1}, {5, 300, 1}};
        for (int[] w : want) {
            MarkToBoard x = with("w-9;" + statement(w[0], 0, 50, 0, 0, 20, 0, 0));
            due("kind " + w[0] + ", b " + w[1], x.length(0, w[1], 0), w[2]);
            if (w[1] == 61) due("kind " + w[0] + ", LOSS", x.length(0, 59, 1), w[2]);
        }
    }

    private static void lengthsFar() {
        about("LENGTH of the farthest b and the greatest LOSS");
        int[] far = {0, 0, 3, 0, 12, 1};
        int[] still = {0, 0, 3, 0, 1, 1};
        for (int kind = 0; kind < 6; kind++) {
            MarkToBoard x = with("w+9;" + statement(kind, 9, 50, 0, 0, 20, 0, 0));
            due("kind " + kind, x.length(0, 300, 99), far[kind]);
            x.wind(-2);
            due("kind " + kind + " in WIND -2", x.length(0, 300, 99), still[kind]);
        }
        // 396 and 18 and 9, the kind's own more.
        int[] most = {423, 420, 426, 420, 435, 421};
        for (int kind = 0; kind < 6; kind++) {
            MarkToBoard x = with("w+9;" + statement(kind, 9, 50, 0, 0, 99, 0, 0));
            due("the most of kind " + kind, x.length(0, 0, 0), most[kind]);
            due("LOSS 99 of kind " + kind, x.length(0, 0, 99), most[kind] - 198);
            due("b 300 of kind " + kind, x.length(0, 300, 0), most[kind] - 300);
        }
    }

    // ---- the meet ----

    private static MarkToBoard sizes(int size, int goOn) {
        return with("n04;g" + goOn + ";" + "j0050005000200;".repeat(size));
    }

    private static void meetsOfAllSizes() {
        about("in 0 to 2 all try one behind the other, by numbers; those GO ON who RANK first (no more than there are), the last of them first");
        for (int size = 1; size <= 4; size++) {
            for (int goOn = 1; goOn <= 4; goOn++) {
                for (int shape = 0; shape < 3; shape++) wholeMeet(size, goOn, shape);
            }
        }
        MarkToBoard x = new MarkToBoard();
        due("no JUMPERS: OVER at once", x.turn(), -9);
        due("ROUND", x.count(1), 6);
    }

    /** Shape 0: the first RANKS first; 1: the last does; 2: all PASSED. */
    private static void wholeMeet(int size, int goOn, int shape) {
        MarkToBoard x = sizes(size, goOn);
        int finalists = Math.min(size, goOn);
        int made = 0;
        for (int round = 0; round < 6; round++) {
            int inRound = round < 3 ? size : finalists;
            for (int i = 0; i < inRound; i++) {
                int behind = finalists - 1 - i;
                int who = round < 3 ? i : shape == 1 ? size - 1 - behind : behind;
                due("turn in ROUND " + round, x.turn(), who);
                due("ROUND", x.count(1), round);
                for (int j = 0; j < size; j++) if (j != who) due("out of turn", x.jump(j, 0), -3);
                tryOf(x, who, shape);
                made++;
            }
        }
        due("turn", x.turn(), -9);
        due("ROUND", x.count(1), 6);
        due("tries", x.count(2), made);
        due("tries", made, 3 * size + 3 * finalists);
        for (int j = 0; j < size; j++) due("OVER", x.jump(j, 0), -3);
    }

    private static void tryOf(MarkToBoard x, int who, int shape) {
        if (shape == 2) x.none(who, 1);
        else due("LENGTH", x.jump(who, shape == 0 ? 10 * who : 40 - 10 * who), shape == 0 ? 200 - 10 * who : 160 + 10 * who);
    }

    private static void finalistsByRank() {
        about("they try in ROUNDS 3 to 5, the last of them first");
        MarkToBoard x = sizes(4, 3);
        // Longest 190, 200, 195, 200; 1 has 180 as second, 3 has 181: RANK 3, 1, 2, 0.
        tries(x, 10, 0, 5, 19, -9, 20, -8, 0, 300, -9, 6, -8);
        due("RANKS", x.ranks(0), 213);
        due("GO ON", x.goOn(), 14);
        int[] order = {2, 1, 3, 2, 1, 3, 2, 1, 3};
        for (int i = 0; i < order.length; i++) {
            due("turn " + i, x.turn(), order[i]);
            due("ROUND", x.count(1), 3 + i / 3);
            tries(x, i < 3 ? -9 : 30);
        }
        due("OVER", x.turn(), -9);
        due("0 has three", x.jumper(0, 11), 3);
        due("1 has six", x.jumper(1, 11), 6);
        // One who takes the lead in ROUND 3 still tries where it stood behind ROUND 2.
        x = sizes(2, 2);
        tries(x, 10, 20, 10, 20, 10, 20);
        int[] late = {1, 0, 1, 0, 1, 0};
        for (int i = 0; i < late.length; i++) {
            due("turn " + i, x.turn(), late[i]);
            tries(x, late[i] == 1 ? 0 : -8);
        }
        due("1 leads", x.leads(), 1);
    }

    private static void overAndBack() {
        about("tries taken back");
        MarkToBoard x = sizes(3, 2);
        int[] order = {0, 1, 2, 0, 1, 2, 0, 1, 2, 1, 0, 1, 0, 1, 0};
        tries(x, 0, 5, 9, 0, 5, 9, 0, 5, 9, -9, -8, 3, -9, -9, 4);
        due("OVER", x.count(1), 6);
        for (int i = order.length - 1; i >= 0; i--) {
            due("undo", x.undo(), order[i]);
            due("turn", x.turn(), order[i]);
            due("ROUND", x.count(1), i < 9 ? i / 3 : 3 + (i - 9) / 2);
            due("tries", x.count(2), i);
        }
        due("none any more", x.undo(), -3);
        due("turn", x.turn(), 0);
        // Another order once ROUND 2 is tried anew.
        tries(x, 0, 5, 9, 0, 5, 9, 0, 5);
        tries(x, 1);
        due("turn by 200, 199", x.turn(), 2);
        x.undo();
        tries(x, 9);
        due("turn by 200, 195", x.turn(), 1);
    }

    private static void triesWithoutLoss() {
        about("told where one takes off (b) without LOSS");
        MarkToBoard x = with("n04;" + statement(1, 9, 50, 0, 6, 50, 4, 2400));
        due("LENGTH", x.jump(0, 40), 166);
        due("tried", x.tried(0, 0), 166);
        due("of b 300", x.jump(0, 300), 0);
    }

    private static void rankTies() {
        about("RANK: by the longest LENGTH, then the second longest (0 what there is not), then the lesser number");
        MarkToBoard x = sizes(2, 2);
        tries(x, 10, 9);
        due("the longest", x.ranks(0), 1);
        tries(x, 9, 300);
        due("190 is more than none", x.ranks(0), 10);
        tries(x, 300, 10);
        due("190 each: the lesser number", x.ranks(0), 10);
        x = sizes(2, 2);
        tries(x, 10, 10, 300, 300, -9, 299);
        due("LENGTH 0 is as 0", x.ranks(0), 10);
        x = sizes(2, 2);
        tries(x, -9, 200);
        due("LENGTH 0 is as none", x.ranks(0), 10);
        x.undo();
        tries(x, 199);
        due("LENGTH 1 is more", x.ranks(0), 1);
        x = sizes(2, 2);
        // The third longest does not count.
        tries(x, 10, 10, 20, 20, 30, 29);
        due("190, 180 each", x.ranks(0), 10);
        x = sizes(2, 2);
        tries(x, 20, 10, 10, 20, 30, 10);
        due("190 twice", x.ranks(0), 1);
        due("second", x.jumper(1, 10), 190);
        due("second", x.jumper(0, 10), 180);
    }

    private static void ranksOfNothing() {
        about("RANK without tries");
        int[] ranks = {0, 0, 10, 210, 3210};
        for (int size = 1; size <= 4; size++) {
            MarkToBoard x = sizes(size, 2);
            for (int law = 0; law <= 2; law++) due("ranks " + law + " of " + size, x.ranks(law), ranks[size]);
            due("leads", x.leads(), 0);
            due("goOn", x.goOn(), size == 1 ? 1 : 3);
            for (int i = 0; i < size; i++) tries(x, i % 2 == 0 ? -9 : -8);
            due("ranks of FOULS", x.ranks(0), ranks[size]);
            due("leads by FOULS", x.leads(), 0);
        }
        due("four the other way", reversed().ranks(0), 123);
        int[] all = {1, 3, 7, 15};
        for (int g = 1; g <= 4; g++) due("goOn " + g, sizes(4, g).goOn(), all[g - 1]);
    }

    private static MarkToBoard reversed() {
        MarkToBoard x = sizes(4, 4);
        tries(x, 9, 8, 7, 6);
        return x;
    }

    private static void jumpersOnlyAhead() {
        about("JUMPERS come only while there are no tries");
        String one = statement(0, 0, 50, 0, 0, 50, 0, 200);
        for (int told : Arrays.asList(0, -9, -8)) {
            MarkToBoard x = with(one);
            x.image();
            tries(x, told);
            due("behind a try", tell(x, one), -2000);
            due("JUMPERS", x.count(0), 1);
            x.undo();
            due("taken back", tell(x, one), 1);
            tries(x, told);
            due("behind a try again", tell(x, one), -2000);
            x.restore();
            due("restored", tell(x, one + one + one), 3);
            due("JUMPERS", x.count(0), 4);
        }
        due("behind a try of the same text", tell(with(one), "p;" + one), -2002);
    }
}
