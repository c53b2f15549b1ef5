/** The edges of letters and GROUNDS: the first and the last letter, each place at which a letter can be wrong, what is lacking. */
public final class GroundEdgeTest extends Checks {
    private static final String[] FORMS = {"n10;", "w+5;", "w-5;", "g2;", "j0550015000203;", "t05;", "f;", "p;"};
    /** d a digit, s a sign, others themselves. */
    private static final String[] SHAPES = {"ndd;", "wsd;", "wsd;", "gd;", "jddddddddddddd;", "tdd;", "f;", "p;"};
    private static final int[] SIGNS = {0, 1, 10, 32, 43, 45, 46, 47, 48, 57, 58, 59, 60, 70, 74, 78, 80, 84, 87, 102, 103, 106, 110, 112, 116, 119,
        128, 176, 178, 185, 230, 255};

    public static void main(String[] args) {
        lettersAtTheEdges();
        lettersTillFull();
        nothingTold();
        eachFirstLetter();
        eachWrongLetter();
        eachLack();
        secondStatements();
        fullGrounds();
        numbersOfFaults();
        signsAheadOfStatements();
        withFaultNothing();
        triesThere();
        overInTheText();
        aheadInTheText();
        tryNumbers();
        lettersGoAnyway();
        end();
    }

    private static void lettersAtTheEdges() {
        about("feed: -4; -6 (255; 96, too)");
        MarkToBoard x = new MarkToBoard();
        due("0", x.feed(0), 1);
        due("255", x.feed(255), 2);
        due("-1", x.feed(-1), -4);
        due("256", x.feed(256), -6);
        due("far below", x.feed(Integer.MIN_VALUE), -4);
        due("far above", x.feed(Integer.MAX_VALUE), -6);
        due("letters", x.count(7), 2);
        due("-4", x.count(14), 2);
        due("-6", x.count(16), 2);
        due("the next", x.feed(';'), 3);
    }

    private static void lettersTillFull() {
        about("96 letters at most");
        MarkToBoard x = new MarkToBoard();
        for (int i = 1; i <= 96; i++) due("letter", x.feed('f'), i);
        due("the 97th", x.feed('f'), -6);
        due("the 97th, of 0", x.feed(0), -6);
        due("the 97th below", x.feed(-1), -4);
        due("the 97th above", x.feed(256), -6);
        due("letters", x.count(7), 96);
        due("-6", x.count(16), 3);
        due("-4", x.count(14), 1);
        due("ground", x.ground(), -1001);
        due("letters", x.count(7), 0);
        due("feed again", x.feed('f'), 1);
    }

    private static void nothingTold() {
        about("At least one STATEMENT");
        MarkToBoard x = new MarkToBoard();
        due("no letters", x.ground(), -1000);
        due("no letters again", x.ground(), -1000);
        due("; alone", tell(x, ";"), -1000);
        for (int r = 11; r <= 16; r++) due("nothing is counted", x.count(r), 0);
        due("one", tell(x, "w+0;"), 1);
        due("and none", x.ground(), -1000);
    }

    private static void eachFirstLetter() {
        about("kind 1: the first letter of a STATEMENT");
        for (int c = 0; c <= 255; c++) {
            boolean begins = "nwgjtfp".indexOf(c) >= 0;
            MarkToBoard x = new MarkToBoard();
            x.feed(c);
            due("letter " + c, x.ground(), begins ? -1001 : -1000);
            feedAll(x, "w+1;");
            x.feed(c);
            due("letter " + c + " behind a STATEMENT", x.ground(), begins ? -1005 : -1004);
            due("nothing came", x.wind(0), 0);
        }
    }

    private static boolean fits(char shape, int c) {
        return shape == 'd' ? c >= '0' && c <= '9' : shape == 's' ? c == '+' || c == '-' : c == shape;
    }

    private static void eachWrongLetter() {
        about("kind 1: the place of the first letter with which no GROUND can go on");
        for (int f = 0; f < FORMS.length; f++) {
            for (int p = 1; p < FORMS[f].length(); p++) {
                for (int c : SIGNS) {
                    if (!fits(SHAPES[f].charAt(p), c)) wrongLetter(FORMS[f], p, c);
                }
            }
        }
    }

    private static void wrongLetter(String form, int p, int c) {
        String text = form.substring(0, p) + (char) c + form.substring(p + 1);
        MarkToBoard x = new MarkToBoard();
        due(form + " with " + c + " at " + p, tell(x, text), -1000 - p);
        due(form + " with " + c + " at " + p + ", the last", tell(x, text.substring(0, p + 1)), -1000 - p);
        due(form + " with " + c + " at " + p + " behind two", tell(x, "g3;w-9;" + text), -1007 - p);
        due("nothing came", x.count(4), 2);
    }

    private static void eachLack() {
        about("kind 1: the end, if something lacks");
        for (String form : FORMS) {
            for (int n = 0; n < form.length(); n++) {
                MarkToBoard x = new MarkToBoard();
                due("lacking behind " + form.substring(0, n), tell(x, form.substring(0, n)), -1000 - n);
                if (n > 0) due("lacking behind a STATEMENT", tell(x, "g3;" + form.substring(0, n)), -1003 - n);
                due("nothing came", x.count(4), 2);
            }
        }
    }

    private static void secondStatements() {
        about("STATEMENTS, each with ; behind");
        MarkToBoard x = new MarkToBoard();
        due("two without", tell(x, "w+1w+2;"), -1003);
        due("one ; more", tell(x, "w+1;;"), -1004);
        due("a digit more", tell(x, "w+12;"), -1003);
        due("a digit more of n", tell(x, "n100;"), -1003);
        due("a digit less of n", tell(x, "n4;"), -1002);
        due("a digit less of t", tell(x, "t5;"), -1002);
        due("a digit more of g", tell(x, "g12;"), -1002);
        due("a blank", tell(x, "w+1; w+2;"), -1004);
        due("two signs", tell(x, "w+-1;"), -1002);
        due("no sign", tell(x, "w1;"), -1001);
        due("a sign with n", tell(x, "n+4;"), -1001);
        due("f with a number", tell(x, "f0;"), -1001);
        due("two", tell(x, "w+1;w+2;"), 2);
        due("the later WIND", x.wind(0), 2);
    }

    private static void fullGrounds() {
        about("a GROUND of 96 letters");
        MarkToBoard x = new MarkToBoard();
        String whole = "w+1;".repeat(23);
        feedAll(x, whole + "w-7;");
        due("letters", x.count(7), 96);
        due("one more", x.feed('w'), -6);
        due("ground", x.ground(), 24);
        due("the last WIND", x.wind(0), -7);
        x = new MarkToBoard();
        due("lacking at 96", tell(x, whole + "w+;w"), -1094);
        due("lacking ; at 96", tell(x, "f;" + whole + "w+"), -1096);
        due("95 letters, ; lacking", tell(x, whole + "w+1"), -1095);
        due("the last letter wrong", tell(x, whole + "w+1:"), -1095);
        x = new MarkToBoard();
        due("the last STATEMENT out of range", tell(x, "g1;".repeat(30) + "g1;g0;"), -2093);
        due("nothing came", x.count(4), 2);
        due("32 STATEMENTS", tell(x, "g1;".repeat(31) + "g3;"), 32);
        due("GO ON", x.count(4), 3);
        due("40 tries of one JUMPER, OVER", tell(new MarkToBoard(), "j0550015000203;" + "f;".repeat(40)), -2027);
        due("48 STATEMENTS without JUMPERS", tell(new MarkToBoard(), "f;".repeat(48)), -2000);
    }

    private static void numbersOfFaults() {
        about("kind 2: -2000 less the place of the STATEMENT's first letter");
        String[] bad = {"n00;", "n03;", "n21;", "n99;", "g0;", "g5;", "g9;", "j6550015000203;", "j9550015000203;", "j0500015000203;", "j0539015000203;",
            "j0550075000203;", "j0550095000203;", "j0550011900203;", "j0550010000203;", "j0550015050203;", "j0550015090203;", "j0550015002401;",
            "j0550015009999;", "t00;", "f;", "p;"};
        for (String text : bad) {
            MarkToBoard x = new MarkToBoard();
            due(text, tell(x, text), -2000);
            due(text + " behind w", tell(x, "w+4;" + text), -2004);
            due(text + " behind n, g, w", tell(x, "n04;g4;w+4;" + text), -2011);
            due(text + " ahead of another", tell(x, "w+4;" + text + "n99;"), -2004);
            due("nothing came", x.count(3) + x.count(4) + x.count(0) + x.wind(0), 12);
            for (int r = 11; r <= 16; r++) due("nothing is counted", x.count(r), 0);
        }
    }

    private static void signsAheadOfStatements() {
        about("kind 1; else kind 2");
        MarkToBoard x = new MarkToBoard();
        due("x behind n99", tell(x, "n99;x"), -1004);
        due("lack behind n99", tell(x, "n99;n"), -1005);
        due("lack within n99", tell(x, "n99"), -1003);
        due("wrong behind f", tell(x, "f;g0;j6"), -1007);
        due("kind 2 alone", tell(x, "f;g0;"), -2000);
    }

    private static void withFaultNothing() {
        about("Without FAULT all of it comes, with one nothing");
        String all = "n07;g4;w-3;j0550015000400;j1350005000400;t05;f;p;";
        String[] behind = {"x", "n", "g0;", "n10;", "g1;", "j0550015000203;", "w+"};
        for (String bad : behind) {
            MarkToBoard x = new MarkToBoard();
            int told = tell(x, all + bad);
            due("FAULT of " + bad, told <= -1000 ? 1 : 0, 1);
            int[] want = {0, 6, 0, 10, 2, 0, 0, 0};
            for (int w = 0; w < want.length; w++) due("count " + w + " with " + bad, x.count(w), want[w]);
            due("WIND", x.wind(0), 0);
            due("jumper", x.jumper(0, 0), -1);
            due("whole", tell(x, all), 8);
            int[] whole = {2, 1, 3, 7, 4, 1, 1, 0};
            for (int w = 0; w < whole.length; w++) due("count " + w, x.count(w), whole[w]);
            due("WIND", x.wind(0), -3);
            due("with a FAULT now", tell(x, "w+9;t01;" + bad) < 0 ? 1 : 0, 1);
            due("WIND stays", x.wind(0), 0);
            due("tries stay", x.count(2), 3);
        }
    }

    private static void triesThere() {
        about("kind 2: tries there already");
        String[] late = {"n10;", "g2;", "j0550015000203;"};
        for (String text : late) {
            for (String told : new String[] {"t05;", "f;", "p;"}) {
                MarkToBoard x = with(ONE);
                due(text + " behind " + told, tell(x, told + text), -2000 - told.length());
                due("no try came", x.count(2), 0);
                due(text + " ahead of " + told, tell(x, text + told), 2);
                due(text + " later", tell(x, text), -2000);
                due("w in spite of it", tell(x, "w+1;"), 1);
                due(text + " behind w", tell(x, "w+2;" + text), -2004);
                due("WIND", x.wind(0), 1);
                x.undo();
                due(text + " with the try taken back", tell(x, text), 1);
            }
        }
        // Out of range and tries there already: one FAULT.
        due("both", tell(with(ONE + "f;"), "n99;"), -2000);
    }

    private static void overInTheText() {
        about("kind 2: OVER");
        for (String told : new String[] {"t05;", "f;", "p;"}) {
            MarkToBoard x = new MarkToBoard();
            due("no JUMPERS", tell(x, told), -2000);
            due("no JUMPERS yet", tell(x, told + ONE), -2000);
            String six = told.repeat(6);
            due("the seventh of one", tell(x, ONE + six + told), -2000 - 19 - six.length());
            due("none came", x.count(0), 0);
            due("six of one", tell(x, ONE + six), 8);
            due("ROUND", x.count(1), 6);
            due("the seventh later", tell(x, told), -2000);
            due("the seventh behind w", tell(x, "w+1;" + told), -2004);
            x.undo();
            due("taken back", tell(x, told), 1);
            due("OVER again", tell(x, told), -2000);
        }
    }

    private static void aheadInTheText() {
        about("kind 2: behind all ahead of it in the text");
        MarkToBoard x = with("j0040002000000;j0040002000000;j0040002000000;");
        due("the fourth and a fifth", tell(x, "j0040002000000;j0040002000000;"), -2015);
        due("JUMPERS", x.count(0), 3);
        due("the fourth", tell(x, "j0040002000000;"), 1);
        due("GO ON and STRIDES of the text itself", tell(new MarkToBoard(), "n20;n04;g4;g1;" + "j0040002000000;" + "f;f;f;f;f;f;"), 11);
        x = with("g1;j0050005000200;j0050005000200;" + "t09;t05;".repeat(3));
        due("1 goes on alone", tell(x, "t00;t00;t00;"), 3);
        due("OVER", x.count(1), 6);
        due("its tries", x.jumper(1, 11), 6);
        x = with("j0050005000200;");
        due("WIND between tries", tell(x, "t00;w+9;t00;w-9;t00;"), 5);
        due("as told", x.tried(0, 0), 200);
        due("with it", x.tried(0, 1), 218);
        due("against it", x.tried(0, 2), 182);
    }

    private static void tryNumbers() {
        about("t two digits: a try so many inches behind");
        MarkToBoard x = with("j0050005000200;");
        due("ground", tell(x, "t00;t09;t10;t99;"), 4);
        int[] want = {200, 191, 190, 101};
        for (int k = 0; k < want.length; k++) due("tried " + k, x.tried(0, k), want[k]);
        due("toe of 191 behind by 9", with("j0050005000200;j0050005000200;t00;t09;").ranks(1), 10);
    }

    private static void lettersGoAnyway() {
        about("The letters, which are no more then (with a FAULT neither)");
        String[] texts = {"", "x", "w+1", "n99;", "w+1;"};
        int[] told = {-1000, -1000, -1003, -2000, 1};
        MarkToBoard x = new MarkToBoard();
        for (int i = 0; i < texts.length; i++) {
            due("ground of " + texts[i], tell(x, texts[i]), told[i]);
            due("letters", x.count(7), 0);
            due("nothing to go on with", x.ground(), -1000);
        }
    }
}
