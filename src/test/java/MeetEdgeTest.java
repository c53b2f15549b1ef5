import java.util.Arrays;

/** The edges of what the tries tell: needs, ranks by laws, the ROW, meets by seeds, the image, what is counted. */
public final class MeetEdgeTest extends Checks {
    private static final String TWO = "n04;j0050005000200;j0050005000200;";

    public static void main(String[] args) {
        aNewObject();
        needsToBeFirst();
        needsToGoOn();
        needsOver();
        longest();
        firstAndLastTry();
        leads();
        goesOn();
        fromTheToe();
        withoutFouls();
        lengthsStay();
        tooLong();
        unlike();
        moved();
        judgedEdges();
        judgedOver();
        judgedInMind();
        draws();
        drawsOfTwo();
        seedsOfManyMeets();
        seedsFarAndOver();
        seedsOfFour();
        seedsBetween();
        fouled();
        better();
        half();
        halfTakenBack();
        safe();
        mayStill();
        mayStillOver();
        images();
        imageOfTries();
        imageOfWhat();
        counts();
        end();
    }

    private static MarkToBoard sizes(int size, int goOn) {
        return with("n04;g" + goOn + ";" + "j0050005000200;".repeat(size));
    }

    private static void aNewObject() {
        about("MarkToBoard(): Nobody, no WIND");
        MarkToBoard x = new MarkToBoard();
        int[] counts = {0, 6, 0, 10, 2, 0, 0, 0, 0};
        for (int w = 0; w < counts.length; w++) due("count " + w, x.count(w), counts[w]);
        due("turn", x.turn(), -9);
        due("leads", x.leads(), -9);
        due("goOn", x.goOn(), 0);
        due("mayStill", x.mayStill(), 0);
        for (int law = 0; law <= 2; law++) due("ranks", x.ranks(law), 0);
        due("moved", x.moved(99), -9);
        due("judge", x.judge(), -9);
        due("clear", x.clear(), 0);
        due("ground", x.ground(), -1000);
        due("image", x.image(), 0);
        due("wind", x.wind(-9), 0);
        due("restore", x.restore(), 0);
        due("wind", x.wind(0), 0);
        for (int r = 11; r <= 16; r++) due("REFUSALS", x.count(r), 0);
        MarkToBoard y = with("n05;w+3;" + ONE);
        tries(y, 0);
        due("another object", new MarkToBoard().count(0), 0);
        due("no WIND in another", new MarkToBoard().wind(0), 0);
    }

    // ---- NEEDS, RANK ----

    private static void needsToBeFirst() {
        about("NEEDS: the least LENGTH (0 .. 999) of a next try with which it would be first of all");
        MarkToBoard x = sizes(3, 2);
        int[] none = {0, 1, 1};
        for (int j = 0; j < 3; j++) due("none yet, " + j, x.needs(j, 0), none[j]);
        tries(x, -9, -8, 300);
        for (int j = 0; j < 3; j++) due("FOUL, PASSED, LENGTH 0, " + j, x.needs(j, 0), none[j]);
        tries(x, 5, -9, 0);
        // 195; none; 200.
        due("0 as long as 200: its second is more", x.needs(0, 0), 200);
        due("1 as long as 200, neither has a second: the lesser number", x.needs(1, 0), 200);
        due("2 has it", x.needs(2, 0), 0);
        tries(x, 5, -9, 5);
        // 195, 195; none; 200, 195.
        due("0: 200 and 195, the lesser number", x.needs(0, 0), 200);
        due("1", x.needs(1, 0), 201);
        x = sizes(2, 2);
        tries(x, 0, 0);
        due("0 leads by the number", x.needs(0, 0), 0);
        due("1 by a second of 1", x.needs(1, 0), 1);
        tries(x, 199, 300);
        // 200, 1; 200, 0.
        due("1 by a second of 2", x.needs(1, 0), 2);
        tries(x, 100, 300);
        due("1 by a second of 101", x.needs(1, 0), 101);
        x = with("w+9;" + statement(4, 9, 50, 0, 0, 99, 0, 0) + "j0050005000200;");
        tries(x, 0);
        due("past the longest of all", x.needs(1, 0), 436);
        due("behind none of all", x.needs(0, 0), 0);
    }

    private static void needsToGoOn() {
        about("NEEDS: among those who GO ON");
        MarkToBoard x = sizes(4, 2);
        int[] none = {0, 0, 1, 1};
        for (int j = 0; j < 4; j++) due("none yet, " + j, x.needs(j, 1), none[j]);
        tries(x, 40, 30, 20, 10);
        // 160, 170, 180, 190
        int[] want = {181, 181, 0, 0};
        for (int j = 0; j < 4; j++) due("past 180, " + j, x.needs(j, 1), j == 0 || j == 1 ? 180 : want[j]);
        x = sizes(4, 2);
        tries(x, -9, 20, 20, 20);
        due("0 past 180 and none: none has a second", x.needs(0, 1), 180);
        due("3, as the third of 180, by a second", x.needs(3, 1), 1);
        for (int g = 1; g <= 4; g++) {
            x = sizes(4, g);
            tries(x, 10, 20, 30, 300);
            due("the last, GO ON " + g, x.needs(3, 1), g == 4 ? 0 : 201 - 10 * g);
            due("the first", x.needs(0, 1), 0);
        }
        due("one alone", sizes(1, 1).needs(0, 1), 0);
        due("GO ON 4 of 2", sizes(2, 4).needs(1, 1), 0);
    }

    private static void needsOver() {
        about("NEEDS of a next try, though OVER");
        MarkToBoard x = sizes(2, 1);
        tries(x, 0, 10, 0, 10, 0, 10, -9, -9, -9);
        due("OVER", x.turn(), -9);
        due("1", x.needs(1, 0), 201);
        due("1 to GO ON", x.needs(1, 1), 201);
        due("0", x.needs(0, 0), 0);
    }

    private static void longest() {
        about("its longest, its second (0 what there is not), tries");
        MarkToBoard x = sizes(1, 1);
        int[][] told = {{-9, 0, 0}, {-8, 0, 0}, {300, 0, 0}, {199, 1, 0}, {198, 2, 1}, {198, 2, 2}};
        due("none", x.jumper(0, 9) + x.jumper(0, 10) + x.jumper(0, 11), 0);
        for (int i = 0; i < told.length; i++) {
            tries(x, told[i][0]);
            due("longest", x.jumper(0, 9), told[i][1]);
            due("second", x.jumper(0, 10), told[i][2]);
            due("tries", x.jumper(0, 11), i + 1);
        }
        x.undo();
        due("second, taken back", x.jumper(0, 10), 1);
        x = sizes(1, 1);
        tries(x, 0, 20, 10);
        due("a second behind the longest", x.jumper(0, 10), 190);
        tries(x, 0);
        due("a second as long", x.jumper(0, 10), 200);
    }

    private static void firstAndLastTry() {
        about("none: its tries; jump: its LENGTH, b 0 .. 300");
        MarkToBoard x = sizes(2, 2);
        for (int i = 1; i <= 3; i++) {
            due("a FOUL", x.none(0, 0), i);
            due("PASSED", x.none(1, 1), i);
        }
        for (int i = 4; i <= 6; i++) {
            due("PASSED", x.none(1, 1), i);
            due("a FOUL", x.none(0, 0), i);
        }
        due("OVER", x.none(0, 0), -3);
        due("OVER", x.jump(1, 0), -3);
        int[] behind = {0, 1, 199, 200, 201, 300};
        int[] lengths = {200, 199, 1, 0, 0, 0};
        MarkToBoard y = sizes(1, 1);
        for (int i = 0; i < behind.length; i++) {
            due("b " + behind[i], y.jump(0, behind[i]), lengths[i]);
            due("b " + behind[i], y.tried(0, i), lengths[i]);
        }
        due("OVER", y.jump(0, 0), -3);
    }

    private static void leads() {
        about("LEADS: the first in RANK; -9 nobody");
        MarkToBoard x = sizes(4, 4);
        due("none yet", x.leads(), 0);
        int[] told = {300, 199, 198, 197};
        int[] who = {0, 1, 2, 3};
        for (int i = 0; i < 4; i++) {
            tries(x, told[i]);
            due("leads", x.leads(), who[i]);
        }
        tries(x, 197, 198);
        // 3, 3 (second 0); 0: 3, 0; 1: 2, 1.
        due("3 each without a second: the lesser number", x.leads(), 0);
        tries(x, -9, 299);
        due("3 and 0", x.leads(), 0);
        x.undo();
        tries(x, 199);
        due("3 and a second of 1", x.leads(), 3);
    }

    private static void goesOn() {
        about("Who GO ON as it stands (bits)");
        MarkToBoard x = sizes(4, 2);
        int[] told = {-9, 300, 199, 198};
        int[] bits = {3, 3, 5, 12};
        for (int i = 0; i < 4; i++) {
            tries(x, told[i]);
            due("behind " + i, x.goOn(), bits[i]);
        }
        tries(x, 0, 0, 300, 300, -9, -8, -9, -8);
        due("those stay", x.goOn(), 3);
        tries(x, 300, -9);
        due("in ROUND 4", x.goOn(), 3);
        x.undo();
        x.undo();
        x.undo();
        due("taken back", x.turn(), 3);
        tries(x, 0);
        // 200, 2 of number 3 ahead of 200 of 0 and 1.
        due("another", x.goOn(), 9);
    }

    private static void fromTheToe() {
        about("FROM THE TOE: were a LENGTH more by as much as it was taken off behind");
        MarkToBoard x = sizes(2, 2);
        tries(x, 0, 300);
        due("LENGTH 0, 300 behind", x.ranks(1), 1);
        due("by the board", x.ranks(0), 10);
        x.undo();
        tries(x, 200);
        due("alike: the second, then the number", x.ranks(1), 10);
        tries(x, -9, 201);
        due("201", x.ranks(1), 1);
        x = sizes(2, 2);
        tries(x, 10, -9, 20, 5);
        due("200, 200 against 200", x.ranks(1), 10);
        tries(x, -8, 5);
        due("200, 200 each", x.ranks(1), 10);
        due("by the board 195, 195 against 190, 180", x.ranks(0), 1);
        due("neither FOULS nor PASSED ones are more", onlyFouls().ranks(1), 10);
    }

    private static MarkToBoard onlyFouls() {
        MarkToBoard x = sizes(2, 2);
        tries(x, -9, -8, -8, -9);
        return x;
    }

    private static void withoutFouls() {
        about("WITHOUT FOULS: were each FOUL a try with 0 inches behind");
        MarkToBoard x = sizes(2, 2);
        tries(x, 0, -9);
        due("200 each", x.ranks(2), 10);
        tries(x, -8, -9);
        due("200, 200 against 200", x.ranks(2), 1);
        due("as it is", x.ranks(0), 10);
        tries(x, -9, -8);
        due("200, 200 each", x.ranks(2), 10);
        x = sizes(3, 2);
        tries(x, -8, -9, 0);
        due("PASSED is none", x.ranks(2), 21);
        x = with("n04;w-9;" + "j0050002000200;" + "j0050005000200;");
        tries(x, -9, 121);
        due("LENGTH 61, that of the FOUL 62", x.ranks(2), 10);
        x.undo();
        tries(x, 120);
        due("LENGTH 62, that has the lesser number", x.ranks(2), 10);
        x.undo();
        tries(x, 119);
        due("LENGTH 63", x.ranks(2), 1);
    }

    private static void lengthsStay() {
        about("LENGTHS stay, whatever WIND, MARK, LOOK become");
        MarkToBoard x = sizes(2, 2);
        tries(x, 0, 1);
        x.wind(9);
        x.mark(0, 0);
        x.look(0, 4);
        due("tried", x.tried(0, 0), 200);
        due("ranks", x.ranks(0), 10);
        due("half", x.half(0), 200);
        tries(x, 0, 0);
        due("in WIND 9", x.tried(0, 1), 218);
        due("in WIND 9", x.tried(1, 1), 218);
    }

    // ---- the ROW ----

    private static void tooLong() {
        about("TOO LONG: whether the sum of them less 50 each is above 0: 1, below: 2, neither: 0");
        int[][] rows = {{50}, {51}, {49}, {0}, {99}, {50, 50}, {0, 99}, {0, 99, 51}, {0, 99, 52}, {0, 99, 51, 49}, {99, 1}, {99, 2},
            {0, 0, 0, 0, 0, 0, 99, 99, 99, 99, 99, 99}, {99, 99, 99, 99, 99, 99, 6, 0, 0, 0, 0, 0}, {99, 99, 99, 99, 99, 99, 7, 0, 0, 0, 0, 0}};
        int[] want = {0, 1, 2, 2, 1, 0, 2, 0, 1, 2, 0, 1, 2, 0, 1};
        for (int i = 0; i < rows.length; i++) {
            MarkToBoard x = new MarkToBoard();
            row(x, rows[i]);
            due(Arrays.toString(rows[i]), x.tooLong(), want[i]);
            due("it stays", x.count(8), rows[i].length);
        }
    }

    private static void unlike() {
        about("UNLIKE: the greatest less the least");
        int[][] rows = {{0}, {99}, {0, 0}, {99, 99}, {0, 99}, {99, 0}, {50, 0, 99, 50}, {99, 98, 97}, {1, 2, 3, 4, 5, 6, 7, 8, 9, 10, 11, 12},
            {12, 11, 10, 9, 8, 7, 6, 5, 4, 3, 2, 0}};
        int[] want = {0, 0, 0, 0, 99, 99, 99, 2, 11, 12};
        for (int i = 0; i < rows.length; i++) {
            MarkToBoard x = new MarkToBoard();
            row(x, rows[i]);
            due(Arrays.toString(rows[i]), x.unlike(), want[i]);
            due("it stays", x.count(8), rows[i].length);
        }
    }

    private static void moved() {
        about("MOVED: the place of the first from which on all are at least s (1 .. 99) less than each ahead of it; -9");
        int[][] rows = {{}, {50}, {50, 49}, {50, 49}, {50, 50}, {99, 0}, {98, 0}, {0, 99}, {60, 50, 51, 50}, {60, 51, 50, 50}, {70, 60, 50},
            {70, 65, 50}, {50, 60, 40}, {60, 50, 40, 55}, {60, 60, 60, 60, 60, 60, 60, 60, 60, 60, 60, 50},
            {60, 50, 50, 50, 50, 50, 50, 50, 50, 50, 50, 51}, {60, 50, 50, 50, 50, 50, 50, 50, 50, 50, 50, 50}};
        int[] by = {1, 1, 1, 2, 1, 99, 99, 1, 10, 10, 10, 10, 10, 10, 10, 10, 10};
        int[] want = {-9, -9, 1, -9, -9, 1, -9, -9, -9, -9, 1, 2, 2, -9, 11, -9, 1};
        for (int i = 0; i < rows.length; i++) {
            MarkToBoard x = new MarkToBoard();
            row(x, rows[i]);
            due(Arrays.toString(rows[i]) + " by " + by[i], x.moved(by[i]), want[i]);
            due("it stays", x.count(8), rows[i].length);
        }
    }

    private static int judgedBy(MarkToBoard x, int... numbers) {
        row(x, numbers);
        int answer = x.judge();
        due("the ROW has none then", x.count(8), 0);
        return answer;
    }

    private static void judgedEdges() {
        about("JUDGED: 50 less; below 0 a FOUL: the first behind which RANK's first is another than ahead of it; -9");
        MarkToBoard x = sizes(2, 2);
        due("none", judgedBy(x), -9);
        due("0 leads and does", judgedBy(x, 50), -9);
        due("50 is on the edge, 51 one behind", judgedBy(x, 51, 50), 1);
        due("50 and 51", judgedBy(x, 50, 51), -9);
        due("49 is a FOUL", judgedBy(x, 49, 99), 1);
        due("0 is a FOUL", judgedBy(x, 0, 99), 1);
        due("FOULS of both", judgedBy(x, 49, 49), -9);
        due("99 is 49 behind", judgedBy(x, 99, 98), 1);
        due("alike", judgedBy(x, 99, 99), -9);
        due("by the second", judgedBy(x, 60, 60, 70, 69), 3);
        due("1 leads and 0 leads again: the first", judgedBy(x, 60, 50, 50), 1);
        tries(x, 10, 0);
        due("1 leads ahead of it", judgedBy(x, 51), -9);
        due("0 takes it", judgedBy(x, 49, 50, 50), -9);
        due("0 takes it by the second", judgedBy(x, 50), 0);
        due("twelve", judgedBy(sizes(4, 4), 60, 60, 60, 60, 60, 60, 60, 60, 60, 60, 60, 59), 11);
        due("twelve FOULS", judgedBy(sizes(4, 4), 0, 0, 0, 0, 0, 0, 0, 0, 0, 0, 0, 0), -9);
    }

    private static void judgedOver() {
        about("JUDGED: the place with OVER");
        due("nobody", judgedBy(new MarkToBoard(), 50), 0);
        due("nobody and none", judgedBy(new MarkToBoard()), -9);
        MarkToBoard x = sizes(1, 1);
        due("six of one", judgedBy(x, 50, 49, 50, 49, 50, 49), -9);
        due("seven of one", judgedBy(x, 50, 49, 50, 49, 50, 49, 50), 6);
        due("twelve of one", judgedBy(x, 50, 49, 50, 49, 50, 49, 50, 49, 50, 49, 50, 49), 6);
        tries(x, 0, 0, 0, 0, 0);
        due("the last", judgedBy(x, 50), -9);
        due("one more than the last", judgedBy(x, 50, 50), 1);
        tries(x, 0);
        due("OVER", judgedBy(x, 50), 0);
        due("OVER and none", judgedBy(x), -9);
        due("no refusals", x.count(13), 0);
        x = sizes(2, 1);
        tries(x, 0, 10, 0, 10, 0, 10);
        // 0 alone goes on: three tries.
        due("three of one who goes on", judgedBy(x, 50, 50, 50), -9);
        due("four", judgedBy(x, 50, 50, 50, 50), 3);
    }

    private static void judgedInMind() {
        about("JUDGED: in mind");
        MarkToBoard x = sizes(2, 2);
        tries(x, 10, 20);
        x.image();
        due("1 leads", judgedBy(x, 49, 50), 1);
        due("tries", x.count(2), 2);
        due("turn", x.turn(), 0);
        due("LENGTH", x.tried(1, 0), 180);
        due("ranks", x.ranks(0), 10);
        due("the image stays", x.restore(), 2);
        x.wind(9);
        due("by the WIND of now: 198", judgedBy(x, 49, 70), 1);
    }

    // ---- SEEDS ----

    /** LENGTHS and FOULS by DRAWS, without LOOKING: b behind as a rule, told once more with long numbers. */
    private static int byDraws(int[] seed, int meets, int strides, int place, int slip, int full) {
        long z = seed[0];
        int sum = 0;
        for (int t = 0; t < 6 * meets; t++) {
            int b = place;
            for (int k = 0; k < strides; k++) {
                z = z * 1103515245L + 12345L & 0xffffffffL;
                long draw = ((z & 0x7fffffffL) >> 16) % 4;
                b += draw == 0 ? -slip : draw == 3 ? slip : 0;
            }
            sum += b < 0 ? 0 : Math.max(0, full - b);
        }
        seed[0] = (int) z;
        return sum;
    }

    private static void draws() {
        about("DRAWS: z becomes z times 1103515245 plus 12345 (an int, wrapping); without its sign's bit");
        int[] seeds = {0, 1, -1, 2, 12345, -12345, 65535, 65536, Integer.MAX_VALUE, Integer.MIN_VALUE, Integer.MIN_VALUE + 1, 1103515245, 1 << 30, 42};
        for (int z : seeds) {
            for (int strides = 4; strides <= 20; strides += 8) {
                MarkToBoard x = with("n" + digits(strides, 2) + ";" + statement(0, 0, 50, 0, 1, 50, 0, 50 * strides + 3));
                for (int n : new int[] {1, 2, 20}) {
                    due("seed " + z + ", meets " + n, x.seeds(0, n, z, 1), byDraws(new int[] {z}, n, strides, 3, 1, 200));
                    due("first of one", x.seeds(0, n, z, 0), n);
                }
            }
        }
        // Draws of seed 0: 12345 over 65536 is 0: longer; so it goes on.
        MarkToBoard x = with("n04;" + statement(0, 0, 50, 0, 6, 50, 0, 200));
        due("a wrap by one", x.seeds(0, 1, Integer.MAX_VALUE, 1), byDraws(new int[] {Integer.MAX_VALUE}, 1, 4, 0, 6, 200));
    }

    private static void drawsOfTwo() {
        about("SEEDS: each try by its STRIDES one behind the other, z going on from try to try, from meet to meet");
        // 0 has no SLIP, but draws; 1 slips: PLACE 3, of 200; 0 makes 190 each.
        String text = "n04;g2;" + statement(0, 0, 50, 0, 0, 50, 0, 210) + statement(0, 0, 50, 0, 1, 50, 0, 203);
        MarkToBoard x = with(text);
        int z = 99;
        int sum = 0;
        int firsts = 0;
        int[] now = {z};
        for (int meet = 0; meet < 20; meet++) {
            int best = 0;
            // 1 RANKS first behind ROUND 2 if it has more than 190, and tries last then.
            for (int t = 0; t < 6; t++) {
                boolean last = t < 3 || best > 190;
                if (last) drawn(now);
                int length = lengthOf(drawn(now));
                if (!last) drawn(now);
                best = Math.max(best, length);
                sum += length;
            }
            firsts += best > 190 ? 1 : 0;
        }
        due("LENGTHS of 1", x.seeds(1, 20, z, 1), sum);
        due("first", x.seeds(1, 20, z, 0), firsts);
        due("LENGTHS of 0", x.seeds(0, 20, z, 1), 20 * 6 * 190);
        due("0 is first else", x.seeds(0, 20, z, 0), 20 - firsts);
    }

    private static int lengthOf(int slips) {
        return 3 + slips < 0 ? 0 : 197 - slips;
    }

    private static int drawn(int[] z) {
        int sum = 0;
        for (int k = 0; k < 4; k++) {
            z[0] = z[0] * 1103515245 + 12345;
            int draw = (z[0] & 0x7fffffff) / 65536 % 4;
            sum += draw == 0 ? -1 : draw == 3 ? 1 : 0;
        }
        return sum;
    }

    private static void seedsOfManyMeets() {
        about("SEEDS: n meets (1 .. 20)");
        MarkToBoard x = with("n04;" + statement(0, 0, 50, 0, 1, 50, 0, 203));
        int[] z = {7};
        int sum = 0;
        for (int n = 1; n <= 20; n++) {
            sum += byDraws(z, 1, 4, 3, 1, 200);
            due(n + " meets", x.seeds(0, n, 7, 1), sum);
        }
        due("the same seed, the same answer", x.seeds(0, 20, 7, 1), sum);
    }

    private static void seedsFarAndOver() {
        about("SEEDS: over the edge, and too far behind");
        MarkToBoard x = with("n04;" + statement(0, 0, 50, 0, 0, 50, 0, 199));
        due("FOULS", x.seeds(0, 20, 3, 1), 0);
        due("first of one", x.seeds(0, 20, 3, 0), 20);
        x.mark(0, 200);
        due("on the edge", x.seeds(0, 1, 3, 1), 1200);
        x.mark(0, 2400);
        due("2200 behind", x.seeds(0, 20, 3, 1), 0);
        x.look(0, 1);
        due("1100 behind", x.seeds(0, 20, 3, 1), 0);
        x.mark(0, 216);
        due("LOOKING: 8 behind, LOSS 2", x.seeds(0, 1, 3, 1), 6 * 188);
        x = with("n04;w+9;" + statement(4, 9, 50, 0, 0, 99, 0, 208));
        due("the most", x.seeds(0, 20, 3, 1), 20 * 6 * 435);
        x = with("n04;" + statement(2, 0, 50, 0, 0, 20, 0, 2400));
        due("3 each", x.seeds(0, 1, 3, 1), 18);
    }

    private static void seedsOfFour() {
        about("SEEDS: 24 tries, the last of them that of the first in RANK");
        MarkToBoard x = with("n04;g4;", "j0050005000200;", "j0050004900200;", "j0050004800200;", "j0050004700200;");
        for (int j = 0; j < 4; j++) {
            due("six tries of " + j, x.seeds(j, 1, 1, 1), 6 * (200 - 4 * j));
            due("twenty meets", x.seeds(j, 20, 1, 1), 120 * (200 - 4 * j));
            due("first", x.seeds(j, 20, 1, 0), j == 0 ? 20 : 0);
        }
        tries(x, -9, -9, -9, -9, -9, -9, -9, -9, -9, -9, -9, -9, -9, -9, -9, -9, -9, -9, -9, -9, -9, -9, -9);
        due("the 24th alone", x.seeds(0, 1, 1, 1), 200);
        for (int j = 1; j < 4; j++) due("others have none", x.seeds(j, 1, 1, 1), 0);
        due("turn", x.turn(), 0);
    }

    private static void seedsBetween() {
        about("SEEDS: from now on to the end; of its tries in these");
        MarkToBoard x = with("n04;g1;", "j0050005000200;", "j0050004900200;");
        // Behind five FOULS 1 alone tries yet in ROUND 2, and goes on by it.
        int[] zero = {1200, 1000, 1000, 800, 800, 0, 600, 400, 200, 0};
        int[] one = {588, 588, 392, 392, 196, 784, 0, 0, 0, 0};
        for (int i = 0; i < 10; i++) {
            due("LENGTHS of 0 behind " + i, x.seeds(0, 1, 5, 1), zero[i]);
            due("LENGTHS of 1 behind " + i, x.seeds(1, 1, 5, 1), one[i]);
            due("0 is first", x.seeds(0, 3, 5, 0), i == 5 ? 0 : 3);
            due("1 is first", x.seeds(1, 3, 5, 0), i == 5 ? 3 : 0);
            due("in mind", x.count(2), Math.min(i, 9));
            if (i < 9) tries(x, -9);
        }
        due("OVER", x.turn(), -9);
        due("FOULS alone: 0 is first", x.seeds(0, 20, 5, 0), 20);
        x.image();
        x.undo();
        due("one try more", x.seeds(0, 2, 5, 1), 400);
        due("the image stays", x.restore(), 9);
    }

    // ---- what the tries tell ----

    private static void fouled() {
        about("FOULED: (PASSED ones aside), 0 by 1: none");
        int[] told = {-8, 300, -9, -8, -9, -9};
        int[][] want = {{0, 1}, {0, 1}, {1, 2}, {1, 2}, {2, 3}, {3, 4}};
        MarkToBoard x = sizes(1, 1);
        part("no tries", x.fouled(0, 0), x.fouled(0, 1), 0, 1);
        for (int i = 0; i < told.length; i++) {
            tries(x, told[i]);
            part("behind " + i, x.fouled(0, 0), x.fouled(0, 1), want[i][0], want[i][1]);
        }
        x = sizes(1, 1);
        for (int i = 0; i < 6; i++) {
            tries(x, -9);
            part("FOULS alone", x.fouled(0, 0), x.fouled(0, 1), 1, 1);
        }
        x = sizes(1, 1);
        tries(x, 0, -9, 0, -9, 0, -9);
        part("three of six", x.fouled(0, 0), x.fouled(0, 1), 1, 2);
        x.undo();
        part("two of five", x.fouled(0, 0), x.fouled(0, 1), 2, 5);
        x = sizes(2, 2);
        tries(x, -9, 0);
        part("of one alone", x.fouled(1, 0), x.fouled(1, 1), 0, 1);
    }

    private static void better() {
        about("BETTER: longer than all its own ahead of them (the first one, if its LENGTH is above 0; FOULS, PASSED ones never)");
        int[][] told = {{}, {0}, {199}, {200}, {300}, {-9}, {-8}, {200, 199}, {-9, 199}, {-8, 199}, {300, 200}, {5, 5}, {5, 4}, {5, 6}, {5, 6, 4},
            {5, -9, 6, -8, 5, 4}, {6, 5, 4, 3, 2, 1}, {1, 2, 3, 4, 5, 6}, {6, -9, 5, -9, 4, -9}, {5, 9, 8, 7, 6, 5}};
        int[] want = {0, 1, 1, 0, 0, 0, 0, 1, 1, 1, 0, 1, 2, 1, 2, 2, 6, 1, 3, 1};
        for (int i = 0; i < told.length; i++) {
            MarkToBoard x = sizes(1, 1);
            tries(x, told[i]);
            due(Arrays.toString(told[i]), x.better(0), want[i]);
        }
        MarkToBoard x = sizes(1, 1);
        tries(x, 3, 2, 1);
        for (int left = 2; left >= 0; left--) {
            x.undo();
            due("taken back", x.better(0), left);
        }
        x = sizes(2, 2);
        tries(x, 0, 9, 9, 8, 0, 7);
        due("its own alone", x.better(0), 1);
        due("of the other", x.better(1), 3);
    }

    private static void half() {
        about("HALF: the middle one as sorted, of two the lesser (FOULS 0, PASSED ones aside); -9 none");
        int[][] told = {{}, {-8}, {-8, -8}, {-9}, {300}, {10}, {10, 20}, {20, 10}, {10, -9}, {-9, -9, 10}, {-9, 10, 20}, {20, -8, 10, -8, 30}, {1, 2, 3, 4},
            {4, 3, 2, 1}, {3, 1, 5, 2, 4}, {6, 1, 5, 2, 4, 3}, {1, 2, 3, 4, 5, 6}, {6, 5, 4, 3, 2, 1}, {-9, -9, -9, 0, 0, 0}, {-9, -9, 0, 0, 0, 0}, {-8, -8, -8, -8, -8, 7}, {5, 5, 5, 5, 5, 5}};
        int[] want = {-9, -9, -9, 0, 0, 190, 180, 180, 0, 0, 180, 180, 197, 197, 197, 196, 196, 196, 0, 200, 193, 195};
        for (int i = 0; i < told.length; i++) {
            MarkToBoard x = sizes(1, 1);
            tries(x, told[i]);
            due(Arrays.toString(told[i]), x.half(0), want[i]);
            due("tries stay in their order", told[i].length == 0 || told[i][0] < 0 ? 0 : x.tried(0, 0), told[i].length == 0 || told[i][0] < 0 ? 0
                : Math.max(0, 200 - told[i][0]));
        }
    }

    private static void halfTakenBack() {
        about("HALF of the tries that are left");
        MarkToBoard x = sizes(1, 1);
        tries(x, 10, 20, 30, 40);
        int[] want = {180, 180, 190, -9};
        for (int v : want) {
            x.undo();
            due("taken back", x.half(0), v);
        }
    }

    private static void safe() {
        about("SAFE: surely among those who GO ON, if each other one had one more with b 0, LOSS 0 (at WIND as it is); -9");
        // Each of four would have 200 more.
        int[][] none = {{200, 201, 201, 201}, {200, 200, 201, 201}, {200, 200, 200, 201}, {0, 0, 0, 0}};
        int[][] tried = {{200, 201, 201, 201}, {200, 200, 201, 201}, {200, 200, 200, 201}, {0, 0, 0, 0}};
        for (int g = 1; g <= 4; g++) {
            MarkToBoard x = sizes(4, g);
            for (int j = 0; j < 4; j++) due("none yet, GO ON " + g + ", " + j, x.safe(j), none[g - 1][j]);
            tries(x, -9, -8, 300, -9);
            for (int j = 0; j < 4; j++) due("nothing, GO ON " + g + ", " + j, x.safe(j), tried[g - 1][j]);
        }
        MarkToBoard x = sizes(2, 1);
        tries(x, 0, 10);
        // 1 would have 200, 190: 0 has 200.
        due("0 by its second", x.safe(0), 190);
        due("1 past 200, 200", x.safe(1), 201);
        x.wind(9);
        due("0 past 218", x.safe(0), 218);
        x.wind(-9);
        // 1 would have 190, 182; 0 would have 200, 182.
        due("0 has it", x.safe(0), 0);
        due("1 against the wind: 200 and a second past 182", x.safe(1), 200);
        due("one alone", sizes(1, 1).safe(0), 0);
        x = with("w+9;" + statement(4, 9, 50, 0, 0, 99, 0, 0) + "j0050005000200;g1;");
        tries(x, 0);
        due("past the longest of all", x.safe(1), 436);
    }

    private static void mayStill() {
        about("MAY STILL: first in RANK by one more try with b 0, LOSS 0 (OVER: who is first, by no more try)");
        due("nobody", new MarkToBoard().mayStill(), 0);
        due("one", sizes(1, 1).mayStill(), 1);
        for (int size = 2; size <= 4; size++) due("none yet, " + size, sizes(size, 1).mayStill(), (1 << size) - 1);
        MarkToBoard x = sizes(3, 1);
        tries(x, 0);
        // 200: the others would have 200 without a second; the number decides.
        due("0 alone", x.mayStill(), 1);
        tries(x, 200, 199);
        due("2 by its second", x.mayStill(), 5);
        tries(x, 198);
        due("0 has a second of 2", x.mayStill(), 1);
        x.wind(1);
        due("longer in WIND 1", x.mayStill(), 7);
        x.wind(-1);
        due("not in WIND -1", x.mayStill(), 1);
        x = sizes(2, 1);
        tries(x, 1, 0, 1, 0, 1, 0);
        due("1 leads; 0 would have 200, 199", x.mayStill(), 2);
        tries(x, -9, -8);
        due("ahead of the last", x.mayStill(), 2);
        tries(x, -9);
        due("OVER: 1", x.mayStill(), 2);
        x = sizes(2, 2);
        tries(x, 5, 9, 5, 9, 5, 9, -9, -9, -9, -9, -9);
        due("both, by 200", x.mayStill(), 3);
        tries(x, -9);
        due("OVER: 0 alone", x.mayStill(), 1);
        x.undo();
        due("not OVER again", x.mayStill(), 3);
    }

    private static void mayStillOver() {
        about("MAY STILL, OVER: who is first, by no more try");
        MarkToBoard x = sizes(3, 1);
        tries(x, -9, -9, -9, -9, -9, -9, -9, -9, -9, -8, -8, -8);
        due("OVER", x.turn(), -9);
        due("FOULS alone: the lesser number", x.mayStill(), 1);
        x = sizes(2, 1);
        tries(x, 300, 300, 300, 300, 300, 300, 300, 300, 300);
        due("LENGTHS 0 alone: the lesser number", x.mayStill(), 1);
        due("leads", x.leads(), 0);
    }

    // ---- the image ----

    private static void images() {
        about("THE IMAGE is taken: how many tries; restore: -3 there is none");
        MarkToBoard x = sizes(1, 1);
        due("none", x.restore(), -3);
        for (int made = 0; made <= 6; made++) {
            due("image behind " + made, x.image(), made);
            if (made < 6) tries(x, made);
            due("restored", x.restore(), made);
            due("tries", x.count(2), made);
            if (made < 6) tries(x, made + 10);
        }
        due("OVER", x.turn(), -9);
        due("the image of OVER", x.restore(), 6);
        for (int k = 0; k < 6; k++) due("tried " + k, x.tried(0, k), 190 - k);
        for (int k = 5; k >= 0; k--) due("undo", x.undo(), 0);
        due("none to take back", x.undo(), -3);
        due("once more", x.restore(), 6);
        due("and its tries can be taken back", x.undo(), 0);
        due("the image is not touched", x.restore(), 6);
    }

    private static void imageOfTries() {
        about("restored: by how much and in which WIND each try was taken off behind");
        MarkToBoard x = sizes(2, 2);
        tries(x, 30, 0, -9);
        x.image();
        for (int i = 0; i < 3; i++) x.undo();
        x.wind(-9);
        tries(x, -9, 100, 5);
        x.restore();
        // 0: 170 and 30 behind, a FOUL in WIND 0; 1: 200.
        due("RANKS", x.ranks(0), 1);
        due("FROM THE TOE: 200 each", x.ranks(1), 10);
        due("WITHOUT FOULS: 200 and 170", x.ranks(2), 10);
        tries(x, -9);
        due("WITHOUT FOULS: 200 and 200", x.ranks(2), 1);
        due("WIND", x.wind(0), 0);
    }

    private static void imageOfWhat() {
        about("THE IMAGE: all that there is, but it, letters, the ROW, REFUSALS");
        MarkToBoard x = new MarkToBoard();
        due("of nobody", x.image(), 0);
        tell(x, "n07;g3;w-4;" + TWO);
        tries(x, 5, -9, -8);
        feedAll(x, "w+");
        row(x, 3, 4);
        x.jumper(7, 0);
        due("restored", x.restore(), 0);
        int[] want = {0, 6, 0, 10, 2, 0, 0, 2, 2};
        for (int w = 0; w < want.length; w++) due("count " + w, x.count(w), want[w]);
        due("REFUSALS stay", x.count(11), 1);
        due("WIND", x.wind(6), 0);
        feedAll(x, "2;");
        due("letters stay: w+2;", x.ground(), 1);
        due("WIND", x.wind(0), 2);
        due("the ROW stays", x.unlike(), 1);
        due("the image stays", x.restore(), 0);
        due("no JUMPERS", x.count(0), 0);
        due("come anew", tell(x, TWO), 3);
        due("their tries", x.jumper(0, 11) + x.jumper(1, 9), 0);
    }

    private static void counts() {
        about("count: 0 .. 8, 11 .. 16; -9 for another what");
        MarkToBoard x = with(TWO);
        tries(x, 0, -9, -8);
        for (int w : new int[] {-1, -2, -9, -10, -11, -16, 9, 10, 17, 18, 100, Integer.MIN_VALUE, Integer.MIN_VALUE + 10, Integer.MAX_VALUE}) {
            due("count " + w, x.count(w), -9);
        }
        int[] want = {2, 1, 3, 4, 2, 1, 1, 0, 0, -9, -9, 0, 0, 0, 0, 0, 0};
        for (int w = 0; w < want.length; w++) due("count " + w, x.count(w), want[w]);
        for (int v = 1; v <= 12; v++) {
            x.row(50);
            due("in the ROW", x.count(8), v);
        }
        for (int v = 1; v <= 96; v++) {
            x.feed('w');
            due("letters", x.count(7), v);
        }
        x.ground();
        due("letters", x.count(7), 0);
        x.judge();
        due("in the ROW", x.count(8), 0);
        due("-5 there is none", x.count(15), 0);
        int[] told = {-9, -9, -9, -8, -8, -8, -8, -9, -9};
        MarkToBoard y = sizes(2, 1);
        tries(y, told);
        due("FOULS", y.count(5), 5);
        due("PASSED", y.count(6), 4);
        due("ROUND", y.count(1), 6);
        y.undo();
        due("FOULS", y.count(5), 4);
        due("ROUND", y.count(1), 5);
    }
}
