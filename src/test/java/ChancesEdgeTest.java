/** The edges of part II and III that are reckoned by all slips: nothing, all, the farthest numbers, several alike. */
public final class ChancesEdgeTest extends Checks {
    private static final int[] HELD = {39, 40, 41, 2359, 2360, 2361, 2399, 2400};
    private static final int[] HELD_LEAST = {0, 0, 1, 2319, 2320, 2321, 2359, 2360};
    private static final long ALL_20 = 1L << 40;

    public static void main(String[] args) {
        offFar();
        offOver();
        leastTerms();
        meanOnTheEdge();
        meanOfNothing();
        meanOfOneInch();
        pastEdges();
        bestLooks();
        bestMarkReach();
        bestMarkHeld();
        bestMarkPast();
        backs();
        aims();
        aimsAtTheEnds();
        gusts();
        gustsFull();
        ons();
        onsByTheSecond();
        parts();
        mores();
        duelsSure();
        duelPairs();
        practices();
        practicesAlike();
        bestRuns();
        marksIn();
        end();
    }

    private static MarkToBoard plain(int kind, int figure, int slip, int pace, int look, int mark) {
        return with("n04;" + statement(kind, figure, 50, 0, slip, pace, look, mark));
    }

    // ---- OFF, FOULS, MEAN, PAST ----

    private static void offFar() {
        about("OFF: just b inches behind (-300 .. 300)");
        MarkToBoard x = plain(0, 0, 0, 50, 0, 500);
        part("300", x.off(0, 300, 0), x.off(0, 300, 1), 1, 1);
        part("299", x.off(0, 299, 0), x.off(0, 299, 1), 0, 1);
        x.mark(0, 501);
        part("301 is not 300", x.off(0, 300, 0), x.off(0, 300, 1), 0, 1);
        x = with("n10;" + statement(0, 0, 50, 0, 0, 50, 0, 200));
        part("-300", x.off(0, -300, 0), x.off(0, -300, 1), 1, 1);
        part("-299", x.off(0, -299, 0), x.off(0, -299, 1), 0, 1);
        x.mark(0, 199);
        part("-301 is not -300", x.off(0, -300, 0), x.off(0, -300, 1), 0, 1);
        x = plain(0, 0, 6, 50, 0, 494);
        part("300, by one shorter", x.off(0, 300, 0), x.off(0, 300, 1), 7, 32);
    }

    private static void offOver() {
        about("FOULS: over the edge");
        MarkToBoard x = plain(0, 0, 0, 50, 0, 200);
        part("on the edge", x.mean(0, 0, 0), x.mean(0, 0, 1), 0, 1);
        part("on the edge, off 0", x.off(0, 0, 0), x.off(0, 0, 1), 1, 1);
        x.mark(0, 199);
        part("one inch over", x.mean(0, 0, 0), x.mean(0, 0, 1), 1, 1);
        part("one inch over, off -1", x.off(0, -1, 0), x.off(0, -1, 1), 1, 1);
        x = plain(0, 0, 1, 50, 0, 203);
        part("the longest of all alone", x.mean(0, 0, 0), x.mean(0, 0, 1), 1, 256);
        x.mark(0, 204);
        part("not even that", x.mean(0, 0, 0), x.mean(0, 0, 1), 0, 1);
        x.mark(0, 196);
        part("all but the shortest", x.mean(0, 0, 0), x.mean(0, 0, 1), 255, 256);
        x.mark(0, 195);
        part("all", x.mean(0, 0, 0), x.mean(0, 0, 1), 1, 1);
    }

    private static void leastTerms() {
        about("fractions in least terms");
        MarkToBoard x = with("n20;" + statement(0, 0, 50, 0, 1, 50, 0, 1019));
        // 19 behind as a rule; all twenty longer: one over.
        part("FOULS of twenty", x.mean(0, 0, 0), x.mean(0, 0, 1), 1, ALL_20);
        part("MEAN of twenty", x.mean(0, 1, 0), x.mean(0, 1, 1), 181 * ALL_20 - 201, ALL_20);
        part("PAST of twenty", x.past(0, 0, 0), x.past(0, 0, 1), ALL_20 - 1, ALL_20);
        part("off -1 of twenty", x.off(0, -1, 0), x.off(0, -1, 1), 1, ALL_20);
        part("off 0 of twenty, 40 ways", x.off(0, 0, 0), x.off(0, 0, 1), 5, 1L << 37);
        x.mark(0, 1020);
        part("MEAN, no FOUL", x.mean(0, 1, 0), x.mean(0, 1, 1), 180, 1);
        part("nought", x.mean(0, 0, 0), x.mean(0, 0, 1), 0, 1);
        part("PAST, sure", x.past(0, 159, 0), x.past(0, 159, 1), 1, 1);
        x = with("n20;w+9;" + statement(4, 9, 40, 0, 0, 99, 0, 2400));
        part("never", x.off(0, 0, 0), x.off(0, 0, 1), 0, 1);
    }

    private static void meanOnTheEdge() {
        about("MEAN: LENGTH in the mean, FOULS as 0");
        MarkToBoard x = plain(0, 0, 1, 50, 0, 200);
        // b 0 in 70 of 256, 1 in 56, 2 in 28, 3 in 8, 4 in 1; 93 FOULS.
        int sum = 70 * 200 + 56 * 199 + 28 * 198 + 8 * 197 + 196;
        part("MEAN", x.mean(0, 1, 0), x.mean(0, 1, 1), sum / 4, 64);
        part("FOULS", x.mean(0, 0, 0), x.mean(0, 0, 1), 93, 256);
        x.mark(0, 195);
        part("all FOULS", x.mean(0, 1, 0), x.mean(0, 1, 1), 0, 1);
        x.mark(0, 196);
        part("one in 256 is none", x.mean(0, 1, 0), x.mean(0, 1, 1), 25, 32);
    }

    private static void meanOfNothing() {
        about("LENGTH 0 is no FOUL");
        MarkToBoard x = plain(0, 0, 0, 20, 0, 300);
        part("LENGTH 0", x.mean(0, 1, 0), x.mean(0, 1, 1), 0, 1);
        part("no FOUL", x.mean(0, 0, 0), x.mean(0, 0, 1), 0, 1);
        due("its PART", x.parts(0, 0), 10000);
        part("not past 0", x.past(0, 0, 0), x.past(0, 0, 1), 0, 1);
    }

    private static void meanOfOneInch() {
        about("MEAN of LENGTH 1");
        MarkToBoard x = plain(0, 0, 0, 50, 0, 399);
        part("LENGTH 1", x.mean(0, 1, 0), x.mean(0, 1, 1), 1, 1);
        x.mark(0, 400);
        part("LENGTH 0", x.mean(0, 1, 0), x.mean(0, 1, 1), 0, 1);
        x = plain(0, 0, 1, 50, 0, 399);
        // LENGTHS 5 .. 1 and four of 0 in 1, 8, 28, 56, 70 of 256.
        part("LENGTHS 0 to 5", x.mean(0, 1, 0), x.mean(0, 1, 1), 5 + 4 * 8 + 3 * 28 + 2 * 56 + 70, 256);
    }

    private static void pastEdges() {
        about("PAST: longer than v (0 .. 999)");
        MarkToBoard x = plain(0, 0, 0, 50, 0, 200);
        part("199", x.past(0, 199, 0), x.past(0, 199, 1), 1, 1);
        part("200 is not longer than 200", x.past(0, 200, 0), x.past(0, 200, 1), 0, 1);
        part("0", x.past(0, 0, 0), x.past(0, 0, 1), 1, 1);
        part("999", x.past(0, 999, 0), x.past(0, 999, 1), 0, 1);
        x.mark(0, 399);
        part("1 past 0", x.past(0, 0, 0), x.past(0, 0, 1), 1, 1);
        x.mark(0, 400);
        part("0 not past 0", x.past(0, 0, 0), x.past(0, 0, 1), 0, 1);
        x.mark(0, 199);
        part("a FOUL not past 0", x.past(0, 0, 0), x.past(0, 0, 1), 0, 1);
        x = with("n04;w+9;" + statement(4, 9, 50, 0, 0, 99, 0, 208));
        due("place", x.place(0), 0);
        part("the longest of all past 434", x.past(0, 434, 0), x.past(0, 434, 1), 1, 1);
        part("not past 435", x.past(0, 435, 0), x.past(0, 435, 1), 0, 1);
    }

    // ---- BEST LOOK, BEST MARK, BACK ----

    private static void bestLooks() {
        about("BEST LOOK: 0 .. 4, of several the least");
        due("all alike", plain(0, 0, 0, 50, 3, 200).bestLook(0), 0);
        due("all FOULS", plain(0, 0, 0, 50, 4, 100).bestLook(0), 0);
        due("1 to 4 alike", plain(0, 0, 0, 50, 4, 208).bestLook(0), 1);
        due("1 to 4 alike from over the edge", plain(1, 9, 0, 50, 0, 195).bestLook(0), 1);
        due("2", plain(0, 0, 1, 20, 0, 199).bestLook(0), 2);
        due("3", plain(0, 0, 1, 20, 0, 195).bestLook(0), 3);
        due("4", with("n05;" + statement(0, 0, 50, 0, 1, 20, 0, 245)).bestLook(0), 4);
    }

    private static void bestMarkReach() {
        about("BEST MARK: from 40 less to 40 more, of several the least");
        MarkToBoard x = plain(0, 0, 0, 50, 0, 200);
        int[] marks = {160, 161, 199, 200, 201, 239, 240, 241, 242, 159, 158};
        int[] best = {200, 200, 200, 200, 200, 200, 200, 201, 202, 119, 118};
        for (int i = 0; i < marks.length; i++) {
            x.mark(0, marks[i]);
            due("of " + marks[i], x.bestMark(0, -1), best[i]);
            due("MARK stays", x.jumper(0, 7), marks[i]);
        }
    }

    private static void bestMarkHeld() {
        about("BEST MARK (0 .. 2400 held)");
        // Over or so far behind that each LENGTH is 0: the least MARK there is.
        MarkToBoard x = plain(0, 0, 0, 20, 0, 0);
        for (int i = 0; i < HELD.length; i++) {
            x.mark(0, HELD[i]);
            due("of " + HELD[i], x.bestMark(0, -1), HELD_LEAST[i]);
            due("of " + HELD[i] + " past 0", x.bestMark(0, 0), HELD_LEAST[i]);
        }
        x.mark(0, 0);
        due("of 0", x.bestMark(0, -1), 0);
        // WINDED in WIND 7: all STRIDES together are just 2400.
        x = with("n20;w+7;" + statement(4, 0, 99, 9, 0, 90, 0, 2380));
        due("place", x.place(0), -20);
        due("2400 is the best", x.bestMark(0, -1), 2400);
        x.mark(0, 2360);
        due("40 more is 2400", x.bestMark(0, -1), 2400);
        x.mark(0, 2359);
        due("40 more is 2399", x.bestMark(0, -1), 2319);
        x.mark(0, 2400);
        due("itself", x.bestMark(0, -1), 2400);
        x.wind(8);
        due("which is over it in WIND 8", x.bestMark(0, -1), 2360);
    }

    private static void bestMarkPast() {
        about("BEST MARK for PAST v (-1: for MEAN)");
        MarkToBoard x = plain(0, 0, 0, 50, 0, 230);
        due("MEAN", x.bestMark(0, -1), 200);
        due("past 0", x.bestMark(0, 0), 200);
        due("past 199", x.bestMark(0, 199), 200);
        due("past 200: none", x.bestMark(0, 200), 190);
        due("past 999: none", x.bestMark(0, 999), 190);
        x.mark(0, 300);
        due("past 139: 260 alone", x.bestMark(0, 139), 260);
        due("past 140: none", x.bestMark(0, 140), 260);
        x.mark(0, 290);
        due("past 0, nearer ones alike", x.bestMark(0, 0), 250);
        x = plain(0, 0, 1, 50, 0, 204);
        // Past 0 as soon as none is over: 4 behind.
        due("past 0 with SLIPS", x.bestMark(0, 0), 204);
        x.mark(0, 230);
        due("past 0 with SLIPS", x.bestMark(0, 0), 204);
        due("past 195: b 0 .. 4", x.bestMark(0, 195), 202);
    }

    private static void backs() {
        about("BACK: in WIND w (-9 .. 9) (may be below 0)");
        // Parts of WIND 9 of k 0 .. 19: 162 together; STEADY has none, WINDED twice.
        int[] nine = {162, 162, 162, 162, 324, 0};
        for (int kind = 0; kind < 6; kind++) {
            MarkToBoard x = with("n20;" + statement(kind, 0, 50, 9, 0, 50, 0, 0));
            due("back 9 of kind " + kind, x.back(0, 9), nine[kind]);
            due("back -9 of kind " + kind, x.back(0, -9), -nine[kind]);
            due("back 0 of kind " + kind, x.back(0, 0), 0);
            x.wind(-9);
            due("back 9 from -9", x.back(0, 9), 2 * nine[kind]);
            due("back -9 from -9", x.back(0, -9), 0);
            x.wind(9);
            due("back -9 from 9", x.back(0, -9), -2 * nine[kind]);
            due("WIND stays", x.wind(0), 9);
        }
        MarkToBoard x = with("n04;" + statement(0, 0, 50, 0, 0, 50, 0, 0));
        due("cut toward 0: -3 times 3 by 10", x.back(0, -3), 0);
        due("-4 times 3 by 10", x.back(0, -4), -1);
        due("3 times 3 by 10", x.back(0, 3), 0);
        due("4 times 3 by 10", x.back(0, 4), 1);
    }

    // ---- SAFE OR BOLD ----

    private static void aims() {
        about("SAFE OR BOLD: tries left (1 .. 3), cut for each");
        MarkToBoard x = plain(0, 0, 1, 50, 0, 2400);
        int[] one = {2734, 4721, 6165};
        int[] two = {4921, 7421, 8691};
        for (int m = 1; m <= 3; m++) {
            due("past 199: on the edge alone", x.aim(0, m, 199, 0), 0);
            due("past 199", x.aim(0, m, 199, 1), one[m - 1]);
            due("past 198: b 0 and 1 alike, the least", x.aim(0, m, 198, 0), 0);
            due("past 198", x.aim(0, m, 198, 1), two[m - 1]);
        }
        due("MARK stays", x.jumper(0, 7), 2400);
    }

    private static void aimsAtTheEnds() {
        about("SAFE OR BOLD: b 0 .. 20, v 0 .. 999");
        MarkToBoard x = with("n20;" + statement(0, 0, 50, 0, 5, 99, 0, 0));
        due("b 20", x.aim(0, 1, 0, 0), 20);
        due("as likely as not over", x.aim(0, 1, 0, 1), 9230);
        // SLIP 3: of 18 .. 20 alike the least; 21 would be better yet.
        x = with("n20;" + statement(0, 0, 50, 0, 3, 99, 0, 0));
        due("b 18", x.aim(0, 1, 0, 0), 18);
        // SLIP 1: b 20 alone is sure.
        x = with("n20;" + statement(0, 0, 50, 0, 1, 99, 0, 0));
        due("b 20", x.aim(0, 1, 0, 0), 20);
        due("b 20, sure", x.aim(0, 1, 0, 1), 10000);
        x = plain(0, 0, 0, 50, 0, 0);
        for (int m = 1; m <= 3; m++) {
            due("sure", x.aim(0, m, 199, 1), 10000);
            due("sure at b 0", x.aim(0, m, 199, 0), 0);
            due("sure at all", x.aim(0, m, 0, 0), 0);
            due("never", x.aim(0, m, 200, 1), 0);
            due("never: the least b", x.aim(0, m, 200, 0), 0);
            due("never 999", x.aim(0, m, 999, 1), 0);
        }
        x = plain(1, 9, 0, 50, 4, 0);
        // AIM 11: of b 9 taken back 1, so 10 behind; LENGTHS 206 less b less twice LOSS.
        due("past 200, by LOOKING", x.aim(0, 1, 200, 0), 0);
        due("past 202: none", x.aim(0, 1, 202, 1), 0);
        x = plain(0, 0, 1, 50, 0, 0);
        due("sure as soon as none is over", x.aim(0, 1, 0, 0), 4);
        due("sure", x.aim(0, 3, 0, 1), 10000);
    }

    // ---- GUSTS, ON ----

    private static void gusts() {
        about("GUSTS: WINDS (and 9), the first minute, MARK as it is; -9 none");
        MarkToBoard x = plain(5, 0, 0, 50, 0, 202);
        due("none", x.gusts(0), -9);
        // STEADY's strides have no WIND: the more the longer.
        row(x, 0);
        due("WIND -9 alone", x.gusts(0), 0);
        row(x, 0, 18);
        due("WIND 9", x.gusts(0), 1);
        row(x, 18, 0, 18, 17);
        due("the first of two", x.gusts(0), 0);
        row(x, 9, 9, 9, 9, 9, 9, 9, 9, 9, 9, 9, 10);
        due("the last of twelve", x.gusts(0), 11);
        due("they stay", x.count(8), 12);
        x.mark(0, 0);
        due("all FOULS: the first", x.gusts(0), 0);
        due("WIND stays", x.wind(0), 0);
    }

    private static void gustsFull() {
        about("GUSTS by each WIND");
        // In WIND 7, 8, 9 the strides are 3 longer together, in WIND 5, 6 2.
        MarkToBoard x = plain(0, 0, 0, 50, 0, 203);
        row(x, 15, 16, 17, 18);
        due("on the edge in WIND 9", x.gusts(0), 3);
        x.mark(0, 202);
        due("on the edge in WIND 6", x.gusts(0), 0);
        x.wind(9);
        due("whatever WIND is", x.gusts(0), 0);
    }

    private static void ons() {
        about("ON: each JUMPER that is still to try in this ROUND (0 to 2), one of two alike likely");
        String four = "n04;" + "j0050005000200;".repeat(4);
        int[] first = {9, 12, 15, 16};
        int[] last = {1, 4, 7, 16};
        for (int g = 1; g <= 4; g++) {
            MarkToBoard x = with(four, "g" + g + ";");
            onOfFour(x, 0, first[g - 1]);
            onOfFour(x, 3, last[g - 1]);
            tries(x, -9, -8, -9, -8);
            onOfFour(x, 0, first[g - 1]);
            onOfFour(x, 3, last[g - 1]);
            tries(x, -9, -8, -9, -8);
            onOfFour(x, 0, first[g - 1]);
            onOfFour(x, 3, last[g - 1]);
            tries(x, -9, -8, -9, -8);
            due("ROUND 3", x.on(0, 0), BIG + 3);
        }
        MarkToBoard one = with(ONE + "g1;");
        part("one alone", one.on(0, 0), one.on(0, 1), 1, 1);
        MarkToBoard x = with(four, "g1;");
        tries(x, 0, -9, -8);
        part("the last to try in ROUND 0", x.on(3, 0), x.on(3, 1), 0, 1);
        part("who has 200", x.on(0, 0), x.on(0, 1), 1, 1);
        tries(x, -9);
        part("ROUND 1: all try anew", x.on(1, 0), x.on(1, 1), 0, 1);
        x.wind(9);
        x.mark(1, 203);
        part("ROUND 1: by the WIND and MARK of now", x.on(1, 0), x.on(1, 1), 1, 2);
        for (int j : new int[] {0, 2, 3}) part("the others over the edge", x.on(j, 0), x.on(j, 1), j == 0 ? 1 : 0, j == 0 ? 2 : 1);
    }

    private static void onOfFour(MarkToBoard x, int jumper, int ways) {
        part("of four in ROUND " + x.count(1) + " " + jumper, x.on(jumper, 0), x.on(jumper, 1), ways / gcd(ways, 16), 16 / gcd(ways, 16));
    }

    private static void onsByTheSecond() {
        about("ON: its MEAN, cut, or a FOUL");
        MarkToBoard x = with("n04;g1;", "j0050005000200;", "j0050005000200;");
        tries(x, -9, 0);
        // ROUND 1: 0 makes 200 or none, 1 makes 200 or none and has 200.
        part("0 needs more than 200 and none", x.on(0, 0), x.on(0, 1), 1, 4);
        part("1", x.on(1, 0), x.on(1, 1), 3, 4);
        tries(x, 0);
        part("0 has 200, 1 may have a second", x.on(0, 0), x.on(0, 1), 1, 2);
        tries(x, 0);
        // ROUND 2: 0 has 200, none; 1 has 200, 200.
        part("0 needs a second", x.on(0, 0), x.on(0, 1), 1, 2);
        tries(x, -9);
        part("0 has had its tries", x.on(0, 0), x.on(0, 1), 0, 1);
        part("1 is on", x.on(1, 0), x.on(1, 1), 1, 1);
        x = with("n04;g1;j0050005000200;j0050005000205;");
        tries(x, 10);
        // 190 of 0 is no 200 here, though taken off 10 behind; 1 makes 195 or none.
        part("by the board, not from the toe", x.on(1, 0), x.on(1, 1), 1, 2);
        part("by the board, not from the toe", x.on(0, 0), x.on(0, 1), 1, 2);
        x = with("n04;g1;" + "j0050005000201;", statement(0, 1, 50, 0, 1, 50, 0, 204));
        tries(x, 1);
        due("MEAN", x.mean(1, 1, 0), 197);
        part("197 is not 199", x.on(1, 0), x.on(1, 1), 0, 1);
    }

    private static long gcd(long a, long b) {
        return b == 0 ? a : gcd(b, a % b);
    }

    // ---- PARTS, MORE LIKELY, DUEL ----

    private static void parts() {
        about("PARTS: of ten thousand, cut, for each LENGTH (a FOUL is LENGTH 0)");
        MarkToBoard x = plain(0, 0, 1, 50, 0, 200);
        int[] want = {39, 312, 1093, 2187, 2734};
        for (int i = 0; i < want.length; i++) due("PART of " + (196 + i), x.parts(0, 196 + i), want[i]);
        due("FOULS: 93 of 256", x.parts(0, 0), 3632);
        due("201", x.parts(0, 201), 0);
        due("195", x.parts(0, 195), 0);
        due("1", x.parts(0, 1), 0);
        due("999", x.parts(0, 999), 0);
        x = plain(0, 0, 0, 50, 0, 200);
        due("sure", x.parts(0, 200), 10000);
        due("not 0", x.parts(0, 0), 0);
        x.mark(0, 199);
        due("a sure FOUL", x.parts(0, 0), 10000);
        x = with("n20;" + statement(0, 0, 50, 0, 1, 50, 0, 1019));
        due("one in 4 to the 20", x.parts(0, 0), 0);
        // LENGTH 0 and FOULS together: PACE 20 has 80; PLACE 80, SLIP 1: b 80 and more in 163 of 256.
        due("LENGTH 0", plain(0, 0, 1, 20, 0, 280).parts(0, 0), 6367);
        // In WIND -9 it has 62, PLACE is 61: b 37 .. 61 leave some, 67 .. 85 none; none is over.
        x = with("n04;w-9;" + statement(0, 0, 50, 0, 6, 20, 0, 258));
        due("67 and more: 56, 28, 8, 1 of 256", x.parts(0, 0), 3632);
    }

    private static void mores() {
        about("MORE LIKELY: longer than that of another");
        String two = "n04;j0050005000200;j0050005000200;";
        MarkToBoard x = with(two);
        due("alike", x.more(0, 1), 0);
        due("alike", x.more(1, 0), 0);
        x.mark(0, 201);
        due("an inch less", x.more(0, 1), 0);
        due("an inch more", x.more(1, 0), 10000);
        x.mark(0, 199);
        due("a FOUL", x.more(0, 1), 0);
        due("200 is more than a FOUL", x.more(1, 0), 10000);
        x.mark(1, 199);
        due("two FOULS", x.more(0, 1), 0);
        due("two FOULS", x.more(1, 0), 0);
        x.mark(1, 400);
        due("LENGTH 0 is not more than a FOUL", x.more(1, 0), 0);
        x.mark(1, 399);
        due("LENGTH 1 is", x.more(1, 0), 10000);
        // A sum of products below ten thousand is 0.
        x = with("n20;" + statement(0, 0, 50, 0, 1, 50, 0, 1000), statement(0, 0, 50, 0, 1, 50, 0, 1000));
        due("the same chances", x.more(0, 1) - x.more(1, 0), 0);
    }

    private static void duelsSure() {
        about("A DUEL: each lays its MARK so that PLACE is 0, 6 or 12");
        // No slips: LENGTHS 200, 194, 188 against those of the other.
        int[] figures = {0, 1, 5, 6, 7};
        int[] pair = {0, 0, 0, 0, 0};
        int[] by = {10000, 0, 0, 0, 0};
        for (int i = 0; i < figures.length; i++) {
            MarkToBoard x = with("n04;" + statement(0, figures[i], 50, 0, 0, 50, 0, 900), statement(0, 1, 50, 0, 0, 50, 0, 0));
            boolean more = figures[i] > 1;
            due("FIGURE " + figures[i], x.duel(0, 1, 0), pair[i]);
            due("FIGURE " + figures[i] + " by it", x.duel(0, 1, 1), more ? by[0] : by[1]);
            due("FIGURE " + figures[i] + " SURE", x.duel(0, 1, 2), more ? by[0] : by[1]);
            due("MARKS stay", x.jumper(0, 7), 900);
        }
        MarkToBoard x = with("n04;j0050005000200;j0050005000200;w+9;");
        due("in WIND PLACE is the same", x.duel(0, 1, 0), 0);
        due("none is longer", x.duel(0, 1, 2), 0);
    }

    private static void duelPairs() {
        about("the first pair by which neither has it better by another choice alone; -9; SURE");
        String[] ones = {"j3050055310200;", "j0150002000200;", "j0150002000200;", "j0050012020200;", "j0050022000200;", "j0050062000200;", "j0150042010200;",
            "j0150042020200;", "j0050012000200;"};
        String[] others = {"j3350065720200;", "j0050012000200;", "j0050042000200;", "j0050012000200;", "j0050062010200;", "j0050042010200;", "j0050042000200;",
            "j0050062000200;", "j0050012010200;"};
        int[] pairs = {22, 1, 2, 10, 11, 12, 20, 21, -9};
        int[] by = {1304, 9996, 9996, 3804, 5644, 4402, 4875, 5248, -9};
        int[] sure = {1304, 9996, 9996, 3804, 5644, 4402, 4875, 5248, 3300};
        for (int i = 0; i < ones.length; i++) {
            MarkToBoard x = with("n04;" + ones[i] + others[i]);
            due(ones[i] + others[i], x.duel(0, 1, 0), pairs[i]);
            due("by it", x.duel(0, 1, 1), by[i]);
            due("SURE", x.duel(0, 1, 2), sure[i]);
        }
    }

    // ---- PRACTICE, BEST RUN, TABLE OF MARKS ----

    private static void practices() {
        about("PRACTICE: those that can be (SLIP, GROW, LOOK not below 0, PACE 99, LOOK 4 at most); -9");
        due("nothing can be better", plain(0, 0, 0, 99, 0, 200).practice(0), -9);
        due("PACE 98 can", plain(0, 0, 0, 98, 0, 200).practice(0), 2);
        due("GROW 1 less is never more", with("n04;" + statement(0, 0, 50, 9, 0, 99, 0, 200)).practice(0), -9);
        due("GROW 1 less and PACE 1 more are two", with("n04;" + statement(0, 0, 50, 9, 0, 50, 0, 220)).practice(0), 2);
        due("SLIP 1 can be 0", plain(0, 0, 1, 99, 0, 200).practice(0), 0);
        due("LOOK 0 can be 1", plain(0, 0, 0, 99, 0, 208).practice(0), 3);
        due("LOOK 1 is as good as 2", plain(0, 0, 0, 99, 1, 208).practice(0), -9);
        due("LOOK 4 as good as 3", plain(0, 0, 0, 99, 4, 208).practice(0), -9);
        due("LOOK 1 can be 0", plain(1, 9, 0, 99, 1, 200).practice(0), 4);
        due("LOOK 2 can be 1, but that is the same", plain(1, 9, 0, 99, 2, 200).practice(0), -9);
        due("always over", plain(0, 0, 6, 50, 0, 100).practice(0), -9);
        due("LENGTH 0 by any", plain(0, 0, 0, 20, 0, 400).practice(0), -9);
        // LOOKING from 108 behind: 54 behind, LOSS 13: 80 less 80; from 111: 2 too little; from 112: 4.
        due("LENGTH 4 with PACE 1 more", plain(0, 0, 0, 20, 4, 308).practice(0), 2);
        due("LENGTH 2 with PACE 1 more", plain(0, 0, 0, 20, 4, 311).practice(0), 2);
        due("LENGTH 0 with PACE 1 more, too", plain(0, 0, 0, 20, 4, 312).practice(0), -9);
        MarkToBoard x = plain(0, 0, 1, 50, 2, 210);
        x.practice(0);
        int[] want = {0, 0, 50, 0, 1, 50, 2, 210};
        for (int w = 0; w < want.length; w++) due("nothing changes: " + w, x.jumper(0, w), want[w]);
    }

    private static void practicesAlike() {
        about("PRACTICE: of several the least");
        // 12 behind: LOOKING takes back 6 with LOSS 1: 4 more, as by PACE 1 more.
        due("2 and 3 alike", plain(0, 0, 0, 50, 0, 212).practice(0), 2);
        due("2 and 3 alike", plain(0, 0, 0, 50, 0, 213).practice(0), 2);
        due("6 more by LOOKING", plain(0, 0, 0, 50, 0, 224).practice(0), 3);
        due("0 and 2 alike", with("n05;" + statement(0, 0, 50, 0, 2, 20, 3, 257)).practice(0), 0);
        due("2 and 4 alike", plain(0, 0, 5, 21, 1, 200).practice(0), 2);
    }

    private static void bestRuns() {
        about("BEST RUN: the STRIDES (4 .. 20), PLACE being AIM; of several the fewest");
        for (int n = 4; n <= 20; n++) {
            MarkToBoard x = with("n" + digits(n, 2) + ";" + statement(1, 0, 50, 9, 3, 20, 4, 0));
            due("5, whatever STRIDES are", x.bestRun(0), 5);
            due("STRIDES stay", x.count(3), n);
            x.look(0, 3);
            due("4", x.bestRun(0), 4);
        }
        due("no SLIP: all alike", plain(3, 5, 0, 50, 2, 0).bestRun(0), 4);
        due("no LENGTH: all alike", with("w-9;" + statement(1, 9, 50, 0, 6, 20, 0, 0)).bestRun(0), 4);
    }

    private static void marksIn() {
        about("TABLE OF MARKS: for WIND w (-9 .. 9) (0 to 2400 held)");
        for (int kind = 0; kind < 6; kind++) {
            MarkToBoard x = with("n20;" + statement(kind, 9, 99, 9, 0, 50, 0, 0));
            for (int w = -9; w <= 9; w++) {
                x.wind(w);
                int sum = x.jumper(0, 8);
                for (int k = 0; k < 20; k++) sum += x.stride(0, k);
                x.wind(0);
                due("kind " + kind + " in WIND " + w, x.markIn(0, w), Math.min(2400, sum));
            }
        }
        MarkToBoard x = with("n20;" + statement(4, 0, 99, 9, 0, 50, 0, 0));
        due("2401 held", x.markIn(0, 7), 2400);
        due("not held", x.markIn(0, 6) < 2400 ? 1 : 0, 1);
        due("the least", with("n04;" + statement(4, 0, 40, 0, 0, 50, 0, 0)).markIn(0, -9), 160 - 6 + 2 + 1);
        due("MARK stays", x.jumper(0, 7), 0);
    }
}
