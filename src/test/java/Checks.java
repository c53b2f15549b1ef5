/** What the tests by hand share: answers held against those that are due, meets told in letters. */
abstract class Checks {
    /** FIGURE 5, STRIDE 50, SLIP 1, PACE 50: takes off 3 behind as a rule; LENGTH 205 less b. */
    static final String ONE = "n04;j0550015000203;";
    /** No slips; b 0, 5, 1 as a rule; LENGTHS with b 0: 200, 200, 163. */
    static final String THREE = "n04;j0050005000200;j1350005000205;j2050004000203;";
    static final long BIG = 4000000000000000000L;
    static final int FAR = 1000000000;
    private static final int SHOWN = 40;

    private static int wrong = 0;
    private static int asked = 0;
    private static String about = "";

    static void about(String what) {
        about = what;
    }

    static void promise(int number) {
        about = "promise " + number;
    }

    static void due(String call, long got, long want) {
        asked++;
        if (got != want) {
            wrong++;
            if (wrong <= SHOWN) System.out.println(about + ": " + call + " answered " + got + ", due is " + want);
        }
    }

    static void part(String call, long above, long below, long wantAbove, long wantBelow) {
        due(call + " above", above, wantAbove);
        due(call + " below", below, wantBelow);
    }

    static void end() {
        System.out.println(wrong == 0 ? asked + " answers are as due" : wrong + " answers are not as due");
        if (wrong != 0) System.exit(1);
    }

    static void feedAll(MarkToBoard x, String text) {
        for (int i = 0; i < text.length(); i++) x.feed(text.charAt(i));
    }

    static int tell(MarkToBoard x, String text) {
        feedAll(x, text);
        return x.ground();
    }

    /** An object to which some GROUNDS are told, one behind the other. */
    static MarkToBoard with(String... texts) {
        MarkToBoard x = new MarkToBoard();
        for (String text : texts) {
            int told = tell(x, text);
            if (told < 1) due("ground of " + text, told, 1);
        }
        return x;
    }

    /** Who is in turn tries; -9 a FOUL, -8 PASSED. */
    static void tries(MarkToBoard x, int... told) {
        for (int b : told) {
            int who = x.turn();
            int answer = b >= 0 ? x.jump(who, b) : x.none(who, b == -9 ? 0 : 1);
            if (answer < 0) due("a try " + b, answer, 0);
        }
    }

    static void row(MarkToBoard x, int... numbers) {
        x.clear();
        for (int v : numbers) x.row(v);
    }

    /** The STATEMENT of a JUMPER: KIND, FIGURE, STRIDE, GROW, SLIP, PACE, LOOK, MARK. */
    static String statement(int... v) {
        return "j" + v[0] + v[1] + digits(v[2], 2) + v[3] + v[4] + digits(v[5], 2) + v[6] + digits(v[7], 4) + ";";
    }

    static String digits(int v, int count) {
        String s = "" + v;
        while (s.length() < count) s = "0" + s;
        return s;
    }

    static String winds(int v) {
        return "w" + (v < 0 ? "-" : "+") + Math.abs(v) + ";";
    }
}
