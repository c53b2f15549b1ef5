/** Each promise by numbers that were reckoned by hand from the document. */
public final class PromiseTest extends Checks {
    public static void main(String[] args) {
        anew();
        letters();
        grounds();
        faultsOfSigns();
        faultsOfStatements();
        jumpers();
        marksAndLooks();
        sets();
        winds();
        strides();
        places();
        lengths();
        offs();
        means();
        pasts();
        bestLooks();
        bestMarks();
        backs();
        turns();
        jumps();
        nones();
        undos();
        trieds();
        needs();
        ranks();
        leadsAndGoOn();
        aims();
        rows();
        gusts();
        ons();
        judges();
        seeds();
        parts();
        mores();
        duels();
        practices();
        bestRuns();
        marksIn();
        fouled();
        betters();
        halves();
        safes();
        mayStills();
        images();
        counts();
        end();
    }

    private static void anew() {
        promise(1);
        MarkToBoard x = new MarkToBoard();
        int[] counts = {0, 6, 0, 10, 2, 0, 0, 0, 0, -9, -9, 0, 0, 0, 0, 0, 0, -9};
        for (int w = 0; w < counts.length; w++) due("count " + w, x.count(w), counts[w]);
        due("turn", x.turn(), -9);
        due("wind", x.wind(0), 0);
        due("restore", x.restore(), -3);
    }

    private static void letters() {
        promise(2);
        MarkToBoard x = new MarkToBoard();
        due("feed", x.feed('n'), 1);
        due("feed 0", x.feed(0), 2);
        due("feed 255", x.feed(255), 3);
        due("feed -1", x.feed(-1), -4);
        due("feed 256", x.feed(256), -6);
        due("count 7", x.count(7), 3);
        for (int i = 4; i <= 96; i++) due("feed", x.feed(';'), i);
        due("the 97th", x.feed(';'), -6);
        due("the 97th, below", x.feed(-5), -4);
        due("count 14", x.count(14), 2);
        due("count 16", x.count(16), 2);
    }

    private static void grounds() {
        promise(3);
        MarkToBoard x = new MarkToBoard();
        due("ground", tell(x, "n07;w-3;g4;j5962369840123;j0040002000000;"), 5);
        due("letters", x.count(7), 0);
        due("STRIDES", x.count(3), 7);
        due("GO ON", x.count(4), 4);
        due("WIND", x.wind(2), -3);
        int[] five = {5, 9, 62, 3, 6, 98, 4, 123};
        for (int w = 0; w < five.length; w++) due("jumper 0 " + w, x.jumper(0, w), five[w]);
        int[] none = {0, 0, 40, 0, 0, 20, 0, 0};
        for (int w = 0; w < none.length; w++) due("jumper 1 " + w, x.jumper(1, w), none[w]);
        due("w-0", tell(x, "w-0;"), 1);
        due("WIND", x.wind(2), 0);
        due("tries", tell(x, "t07;f;p;w+9;t00;"), 5);
        due("LENGTH", x.tried(0, 0), 4 * 98 + 2 * 2 + 9 - 7 - 3 + 1);
        due("FOUL", x.tried(1, 0), -9);
        due("PASSED", x.tried(0, 1), -8);
        due("LENGTH with WIND", x.tried(1, 1), 98);
        due("most", tell(new MarkToBoard(), "n20;g1;n04;g4;j5999969942400;"), 5);
    }

    private static void faultsOfSigns() {
        promise(3);
        String[] texts = {"", "x", "n", "n1", "n1x;", "n10", "n101;", "w", "w5;", "w+", "w+;", "w+12;", "g;", "g2", "g2;;",
            "f", "f;x", "ff;", "p1;", "t5;", "t05", "g9;x", "j0", "j055001500020;", "j05500150002031;", "f;N10;", "w*3;",
            "j05500150/0203;", "j05500150:0203;"};
        int[] places = {0, 0, 1, 2, 2, 3, 3, 1, 1, 2, 2, 3, 1, 2, 3, 1, 2, 1, 1, 2, 3, 3, 2, 13, 14, 2, 1, 9, 9};
        for (int i = 0; i < texts.length; i++) {
            MarkToBoard x = new MarkToBoard();
            due("ground of '" + texts[i] + "'", tell(x, texts[i]), -1000 - places[i]);
            due("letters", x.count(7), 0);
            for (int r = 11; r <= 16; r++) due("count " + r, x.count(r), 0);
        }
        due("a second w", tell(new MarkToBoard(), "w+1;".repeat(23) + "ww-1"), -1093);
        due("96 letters, more lacking", tell(new MarkToBoard(), "f;".repeat(47) + "w+"), -1096);
    }

    private static void faultsOfStatements() {
        promise(3);
        String[] texts = {"n03;", "n21;", "g0;", "g5;", "w-9;n30;", "j6550015000203;", "j0539015000203;", "j0550075000203;",
            "j0550011900203;", "j0550015050203;", "j0550015002401;", "t05;", "f;", "p;", "g1;" + ONE + "t00;n10;",
            ONE + "f;g1;", ONE + "p;j0550015000203;", ONE + "t99;w-1;w+1;f;p;t01;t02;t03;f;", "g9;n99;"};
        int[] places = {0, 0, 0, 0, 4, 0, 0, 0, 0, 0, 0, 0, 0, 0, 26, 21, 21, 47, 0};
        for (int i = 0; i < texts.length; i++) {
            MarkToBoard x = new MarkToBoard();
            due("ground of '" + texts[i] + "'", tell(x, texts[i]), -2000 - places[i]);
            due("nothing came", x.count(0) + x.count(2) + x.wind(0), 0);
            due("STRIDES", x.count(3), 10);
            due("GO ON", x.count(4), 2);
        }
        MarkToBoard x = with("j0550015000203;j0550015000203;j0550015000203;j0550015000203;");
        due("no room", tell(x, "w+5;j0550015000203;"), -2004);
        due("WIND", x.wind(0), 0);
        tries(x, 3);
        due("tries already", tell(x, "n10;"), -2000);
        due("w in spite of tries", tell(x, "w+4;t05;"), 2);
        due("count 2", x.count(2), 2);
        x.undo();
        x.undo();
        due("no tries any more", tell(x, "n10;"), 1);
    }

    private static void jumpers() {
        promise(4);
        int[] aims = {0, 7, 1, 3, 1, 4};
        for (int kind = 0; kind < 6; kind++) {
            MarkToBoard x = with("j" + kind + "541723332012;");
            int[] want = {kind, 5, 41, 7, 2, 33, 3, 2012, aims[kind], 0, 0, 0};
            for (int w = 0; w < want.length; w++) due("jumper 0 " + w, x.jumper(0, w), want[w]);
        }
        due("LOOKER of an odd", with("j3641723332012;").jumper(0, 8), 4);
        MarkToBoard x = with(ONE);
        tries(x, 10);
        due("longest", x.jumper(0, 9), 195);
        due("second", x.jumper(0, 10), 0);
        tries(x, -9, -8, 20, 10);
        due("longest", x.jumper(0, 9), 195);
        due("second", x.jumper(0, 10), 195);
        due("tries", x.jumper(0, 11), 5);
        due("-1", x.jumper(1, 0), -1);
        due("-1 ahead", x.jumper(-1, 12), -1);
        due("-2", x.jumper(0, 12), -2);
        due("-2", x.jumper(0, -1), -2);
    }

    private static void marksAndLooks() {
        promise(5);
        MarkToBoard x = with(ONE);
        due("mark", x.mark(0, 0), 203);
        due("place", x.place(0), -200);
        due("mark", x.mark(0, 2400), 0);
        due("-6", x.mark(0, 2401), -6);
        due("-4", x.mark(0, -1), -4);
        due("-1", x.mark(1, -1), -1);
        due("mark", x.mark(0, 5), 2400);
        promise(6);
        due("look", x.look(0, 4), 0);
        due("look", x.look(0, 0), 4);
        due("-6", x.look(0, 5), -6);
        due("-4", x.look(0, -1), -4);
        due("-1", x.look(-1, 9), -1);
        due("look", x.jumper(0, 6), 0);
    }

    private static void sets() {
        promise(7);
        MarkToBoard x = new MarkToBoard();
        due("set 0", x.set(0, 20), 10);
        due("set 0", x.set(0, 4), 20);
        due("set 1", x.set(1, 4), 2);
        due("set 1", x.set(1, 1), 4);
        due("-4", x.set(0, 3), -4);
        due("-6", x.set(0, 21), -6);
        due("-4", x.set(1, 0), -4);
        due("-6", x.set(1, 5), -6);
        due("-2", x.set(2, -5), -2);
        due("-2", x.set(-1, 5), -2);
        x = with(ONE);
        tries(x, -8);
        due("-3", x.set(0, 5), -3);
        due("-3", x.set(1, 1), -3);
        due("-4 ahead of -3", x.set(0, 1), -4);
        due("-6 ahead of -3", x.set(1, 9), -6);
        x.undo();
        due("set", x.set(0, 5), 4);
        due("set", x.set(1, 1), 2);
    }

    private static void winds() {
        promise(8);
        MarkToBoard x = with(ONE);
        due("wind", x.wind(-9), 0);
        due("wind", x.wind(9), -9);
        due("-4", x.wind(-10), 1000000004);
        due("-6", x.wind(10), 1000000006);
        due("counts", x.count(14) + 10 * x.count(16), 11);
        tries(x, 0);
        due("wind", x.wind(0), 9);
        due("the LENGTH stays", x.tried(0, 0), 223);
    }

    private static void strides() {
        promise(9);
        int[][] want = {{50, 50, 50, 51, 52}, {50, 50, 50, 51, 52}, {50, 51, 50, 52, 53}, {50, 50, 50, 51, 52},
            {50, 51, 49, 51, 49}, {50, 50, 51, 52, 56}};
        int[] ks = {0, 1, 2, 3, 9};
        for (int kind = 0; kind < 6; kind++) {
            MarkToBoard x = with("w-5;j" + kind + "550712000300;");
            for (int i = 0; i < ks.length; i++) due("kind " + kind + " stride " + ks[i], x.stride(0, ks[i]), want[kind][i]);
        }
        MarkToBoard x = with("w+9;j4099902000300;n20;");
        due("the most", x.stride(0, 19), 99 + 17 + 17 + 1 + 17);
        due("-6", x.stride(0, 20), -6);
        due("-4", x.stride(0, -1), -4);
        due("-1", x.stride(1, -1), -1);
    }

    private static void places() {
        promise(10);
        int[] paths = {201, 201, 203, 201, 201, 203};
        for (int kind = 0; kind < 6; kind++) {
            MarkToBoard x = with("n04;w-5;j" + kind + "550712000300;");
            due("place of kind " + kind, x.place(0), 300 - paths[kind]);
        }
        MarkToBoard x = with(ONE);
        due("place", x.place(0), 3);
        x.mark(0, 0);
        due("over", x.place(0), -200);
        due("-1", x.place(1), 1000000001);
        due("count 11", x.count(11), 1);
    }

    private static void lengths() {
        promise(11);
        int[] some = {55, 52, 58, 52, 53, 53};
        int[] none = {0, 0, 3, 0, 0, 1};
        for (int kind = 0; kind < 6; kind++) {
            MarkToBoard x = with("n04;w-5;j" + kind + "550712000300;");
            due("kind " + kind, x.length(0, 10, 5), some[kind]);
            due("kind " + kind + " far", x.length(0, 300, 99), none[kind]);
        }
        MarkToBoard x = with("w+9;j4999919900000;");
        due("the most", x.length(0, 0, 0), 435);
        due("-1", x.length(1, -1, 0), -1);
        due("-4", x.length(0, -1, 100), -4);
        due("-4", x.length(0, 301, -1), -4);
        due("-6", x.length(0, 301, 0), -6);
        due("-6", x.length(0, 0, 100), -6);
    }

    private static void offs() {
        promise(12);
        MarkToBoard x = with(ONE);
        part("off 3", x.off(0, 3, 0), x.off(0, 3, 1), 35, 128);
        part("off -1", x.off(0, -1, 0), x.off(0, -1, 1), 1, 256);
        part("off 7", x.off(0, 7, 0), x.off(0, 7, 1), 1, 256);
        part("off 8", x.off(0, 8, 0), x.off(0, 8, 1), 0, 1);
        x.look(0, 1);
        part("off 3, looking", x.off(0, 3, 0), x.off(0, 3, 1), 49, 256);
        part("off -1, looking", x.off(0, -1, 0), x.off(0, -1, 1), 1, 256);
        x = with("n20;j0550065000999;");
        part("twenty strides", x.off(0, -1, 0), x.off(0, -1, 1), 137846528820L / 4, 1L << 38);
        part("all longer", x.off(0, -121, 0), x.off(0, -121, 1), 1, 1L << 40);
        due("-300", x.off(0, -300, 1), 1);
        due("300", x.off(0, 300, 1), 1);
        due("-1", x.off(1, -301, 2), BIG + 1);
        due("-4", x.off(0, -301, 2), BIG + 4);
        due("-6", x.off(0, 301, 2), BIG + 6);
        due("-2", x.off(0, 0, 2), BIG + 2);
        due("-2", x.off(0, 0, -1), BIG + 2);
    }

    private static void means() {
        promise(13);
        MarkToBoard x = with(ONE);
        part("FOULS", x.mean(0, 0, 0), x.mean(0, 0, 1), 1, 256);
        part("MEAN", x.mean(0, 1, 0), x.mean(0, 1, 1), 25753, 128);
        x.look(0, 1);
        part("MEAN, looking", x.mean(0, 1, 0), x.mean(0, 1, 1), 25913, 128);
        x = with("n04;j0950005010240;");
        part("a LOSS: d 40, 20 taken back, 5 lost", x.mean(0, 1, 0), x.mean(0, 1, 1), 209 - 20 - 10, 1);
        x.mark(0, 157);
        part("over: d -43, 21 taken back", x.off(0, -22, 0), x.off(0, -22, 1), 1, 1);
        part("FOULS", x.mean(0, 0, 0), x.mean(0, 0, 1), 1, 1);
        part("MEAN", x.mean(0, 1, 0), x.mean(0, 1, 1), 0, 1);
        x = with("n04;j1850005000203;");
        x.look(0, 4);
        part("to AIM from ahead: d -7, 3 taken back", x.mean(0, 1, 0), x.mean(0, 1, 1), 208 - 6 - 3, 1);
        due("-1", x.mean(1, 2, 2), BIG + 1);
        due("-2", x.mean(0, 2, 0), BIG + 2);
        due("-2", x.mean(0, 0, 2), BIG + 2);
        due("count 12", x.count(12), 2);
    }

    private static void pasts() {
        promise(14);
        MarkToBoard x = with(ONE);
        part("past 202", x.past(0, 202, 0), x.past(0, 202, 1), 23, 64);
        part("past 204", x.past(0, 204, 0), x.past(0, 204, 1), 1, 32);
        part("past 205", x.past(0, 205, 0), x.past(0, 205, 1), 0, 1);
        part("past 0", x.past(0, 0, 0), x.past(0, 0, 1), 255, 256);
        part("past 999", x.past(0, 999, 0), x.past(0, 999, 1), 0, 1);
        due("-1", x.past(1, -1, 2), BIG + 1);
        due("-4", x.past(0, -1, 2), BIG + 4);
        due("-6", x.past(0, 1000, 2), BIG + 6);
        due("-2", x.past(0, 0, 2), BIG + 2);
    }

    private static void bestLooks() {
        promise(15);
        MarkToBoard x = with(ONE);
        due("bestLook", x.bestLook(0), 1);
        due("LOOK stays", x.jumper(0, 6), 0);
        x.mark(0, 0);
        due("all fouls", x.bestLook(0), 0);
        due("-1", x.bestLook(1), -1);
    }

    private static void bestMarks() {
        promise(16);
        MarkToBoard x = with(ONE);
        due("for MEAN", x.bestMark(0, -1), 203);
        due("for PAST 202", x.bestMark(0, 202), 201);
        due("for none", x.bestMark(0, 999), 163);
        x.mark(0, 220);
        due("for MEAN", x.bestMark(0, -1), 203);
        x.mark(0, 244);
        due("at the edge of the reach", x.bestMark(0, -1), 204);
        x.mark(0, 10);
        due("held", x.bestMark(0, -1), 0);
        x.mark(0, 2390);
        due("most", x.bestMark(0, 0), 2350);
        // PLACE is 0 with the greatest MARK: farther would be better.
        x = with("n20;w+7;j4099969902400;");
        due("place", x.place(0), 0);
        due("held above", x.bestMark(0, -1), 2400);
        due("-1", x.bestMark(1, -2), -1);
        due("-4", x.bestMark(0, -2), -4);
        due("-6", x.bestMark(0, 1000), -6);
    }

    private static void backs() {
        promise(17);
        MarkToBoard x = with(ONE);
        due("back 9", x.back(0, 9), 3);
        due("back -9", x.back(0, -9), -3);
        due("back 0", x.back(0, 0), 0);
        x.wind(9);
        due("back -9", x.back(0, -9), -6);
        due("STEADY", with("n20;j5550015000203;").back(0, 9), 0);
        due("-1", x.back(1, 10), 1000000001);
        due("-4", x.back(0, -10), 1000000004);
        due("-6", x.back(0, 10), 1000000006);
    }

    private static void turns() {
        promise(18);
        MarkToBoard x = with(THREE);
        int[] order = {0, 1, 2, 0, 1, 2, 0, 1, 2};
        int[] told = {10, 20, 0, -9, -8, 3, 9, 5, 5};
        for (int i = 0; i < order.length; i++) {
            due("turn " + i, x.turn(), order[i]);
            due("ROUND " + i, x.count(1), i / 3);
            tries(x, told[i]);
        }
        // 195 (1) ahead of 191 (0) ahead of 163 (2): 0 tries ahead of 1, and stays so though it goes to the front.
        int[] late = {0, 1, 0, 1, 0, 1};
        for (int i = 0; i < late.length; i++) {
            due("late turn " + i, x.turn(), late[i]);
            due("late ROUND " + i, x.count(1), 3 + i / 2);
            tries(x, late[i] == 0 ? 0 : -8);
        }
        due("OVER", x.turn(), -9);
        due("ROUND 6", x.count(1), 6);
        x = with("g4;" + ONE);
        tries(x, 1, 1, 1, 1, 1);
        due("the only one", x.turn(), 0);
        tries(x, 1);
        due("OVER with one", x.turn(), -9);
        due("six tries", x.count(2), 6);
    }

    private static void jumps() {
        promise(19);
        MarkToBoard x = with(THREE);
        due("jump", x.jump(0, 300), 0);
        due("jump", x.jump(1, 0), 200);
        due("-3", x.jump(1, 0), -3);
        due("-3 ahead of -4", x.jump(1, -1), -3);
        due("-1", x.jump(3, -1), -1);
        due("-4", x.jump(2, -1), -4);
        due("-6", x.jump(2, 301), -6);
        due("jump", x.jump(2, 300), 3);
        due("count 2", x.count(2), 3);
        x = with(ONE + "f;f;f;f;f;f;");
        due("OVER", x.jump(0, 0), -3);
    }

    private static void nones() {
        promise(20);
        MarkToBoard x = with(THREE);
        due("FOUL", x.none(0, 0), 1);
        due("out of turn", x.none(0, 0), -3);
        due("-2", x.none(0, 2), -2);
        due("-2", x.none(1, -1), -2);
        due("-1", x.none(3, 2), -1);
        due("PASSED", x.none(1, 1), 1);
        tries(x, 0);
        due("its second", x.none(0, 1), 2);
        due("fouls, passed", x.count(5) + 10 * x.count(6), 21);
        x = with(ONE + "f;f;f;f;f;f;");
        due("OVER", x.none(0, 0), -3);
    }

    private static void undos() {
        promise(21);
        MarkToBoard x = with(THREE);
        due("-3", x.undo(), -3);
        tries(x, 0, -9);
        due("undo", x.undo(), 1);
        due("turn", x.turn(), 1);
        due("FOULS", x.count(5), 0);
        due("undo", x.undo(), 0);
        due("longest", x.jumper(0, 9), 0);
        due("-3", x.undo(), -3);
        due("count 13", x.count(13), 2);
    }

    private static void trieds() {
        promise(22);
        MarkToBoard x = with(THREE);
        tries(x, 10, -9, -8, 20);
        due("tried", x.tried(0, 0), 190);
        due("tried", x.tried(0, 1), 180);
        due("FOUL", x.tried(1, 0), -9);
        due("PASSED", x.tried(2, 0), -8);
        due("-1", x.tried(0, 2), -1);
        due("-1", x.tried(0, -1), -1);
        due("-1", x.tried(3, 0), -1);
        due("-1", x.tried(-1, 0), -1);
        due("count 11", x.count(11), 4);
    }

    private static void needs() {
        promise(23);
        MarkToBoard x = with(THREE);
        due("none yet", x.needs(0, 0), 0);
        due("a lesser number is ahead", x.needs(2, 0), 1);
        due("second of two", x.needs(1, 1), 0);
        due("third", x.needs(2, 1), 1);
        tries(x, 10, 20, 3);
        due("leads", x.needs(0, 0), 0);
        due("1 as long as 190: its second is longer", x.needs(1, 0), 190);
        due("2 as long as 180", x.needs(2, 1), 180);
        tries(x, 20, 10);
        // 0: 190, 180; 1: 190, 180: the lesser number is ahead.
        due("a longer second will do", x.needs(1, 0), 181);
        due("2 past 190 and 180", x.needs(2, 1), 191);
        due("-1", x.needs(3, 2), -1);
        due("-2", x.needs(0, 2), -2);
        due("-2", x.needs(0, -1), -2);
    }

    private static void ranks() {
        promise(24);
        due("nobody", new MarkToBoard().ranks(0), 0);
        MarkToBoard x = with(THREE);
        due("none yet", x.ranks(0), 210);
        tries(x, 50, 60, 0);
        due("2, 0, 1", x.ranks(0), 102);
        due("toe: 200, 200, 163", x.ranks(1), 210);
        tries(x, -8, -9, -8);
        due("PASSED, FOULS count none", x.ranks(0), 102);
        due("without fouls: 1 has 200", x.ranks(2), 21);
        due("-2", x.ranks(3), -2);
        due("-2", x.ranks(-1), -2);
        x = with(THREE);
        tries(x, 10, 10, -8, 20, 19);
        due("by the second", x.ranks(0), 201);
        x.undo();
        tries(x, 20);
        due("alike: by the number", x.ranks(0), 210);
        x = with("n04;j0050005000200;j0050004900200;");
        x.wind(9);
        tries(x, 0, -9);
        x.wind(0);
        tries(x, 0, 0);
        due("a FOUL in the WIND of its time", x.ranks(2), 10);
    }

    private static void leadsAndGoOn() {
        MarkToBoard x = new MarkToBoard();
        promise(25);
        due("nobody", x.leads(), -9);
        promise(26);
        due("nobody", x.goOn(), 0);
        x = with(THREE);
        promise(25);
        due("none yet", x.leads(), 0);
        promise(26);
        due("none yet", x.goOn(), 3);
        tries(x, -9, 40, 0);
        promise(25);
        due("2 leads", x.leads(), 2);
        promise(26);
        due("1 and 2", x.goOn(), 6);
        tries(x, -9, 40, 0, -9, 40, 0);
        due("1 and 2", x.goOn(), 6);
        x = with(THREE + "g1;");
        tries(x, -9, 0);
        due("1", x.goOn(), 2);
        due("no more than there are", with(ONE + "g4;").goOn(), 1);
    }

    private static void aims() {
        promise(27);
        MarkToBoard x = with(ONE);
        due("b", x.aim(0, 1, 202, 0), 1);
        due("likely", x.aim(0, 1, 202, 1), 7109);
        due("b of two", x.aim(0, 2, 202, 0), 1);
        due("likely of two", x.aim(0, 2, 202, 1), 9165);
        due("likely of three", x.aim(0, 3, 202, 1), 9759);
        due("never", x.aim(0, 3, 999, 0), 0);
        due("never", x.aim(0, 3, 999, 1), 0);
        due("surely, of several the least", x.aim(0, 1, 150, 0), 4);
        due("surely", x.aim(0, 1, 150, 1), 10000);
        due("-1", x.aim(1, 0, -1, 2), -1);
        due("-4", x.aim(0, 0, 1000, 2), -4);
        due("-4", x.aim(0, 4, -1, 2), -4);
        due("-6", x.aim(0, 4, 0, 2), -6);
        due("-6", x.aim(0, 1, 1000, 2), -6);
        due("-2", x.aim(0, 1, 0, 2), -2);
        due("MARK stays", x.jumper(0, 7), 203);
    }

    private static void rows() {
        MarkToBoard x = new MarkToBoard();
        promise(28);
        due("-3", x.tooLong(), -3);
        row(x, 50, 51);
        due("above", x.tooLong(), 1);
        row(x, 50, 49);
        due("below", x.tooLong(), 2);
        row(x, 60, 40);
        due("neither", x.tooLong(), 0);
        due("it stays", x.count(8), 2);
        promise(29);
        due("unlike", x.unlike(), 20);
        row(x, 7);
        due("one", x.unlike(), 0);
        row(x, 99, 0, 50);
        due("all", x.unlike(), 99);
        due("it stays", x.clear(), 3);
        due("-3", x.unlike(), -3);
        due("count 13", x.count(13), 2);
        promise(30);
        due("none", x.moved(1), -9);
        row(x, 60);
        due("the first is not moved", x.moved(1), -9);
        row(x, 60, 62, 50, 49);
        due("10", x.moved(10), 2);
        due("11", x.moved(11), -9);
        due("1", x.moved(1), 2);
        row(x, 99, 0, 0, 0);
        due("99", x.moved(99), 1);
        row(x, 60, 50, 60);
        due("back again", x.moved(10), -9);
        row(x, 60, 50, 40);
        due("the first of two", x.moved(10), 1);
        due("it stays", x.count(8), 3);
        due("-4", x.moved(0), -4);
        due("-6", x.moved(100), -6);
        promise(33);
        due("-4", x.row(-1), -4);
        due("-6", x.row(100), -6);
        for (int i = 4; i <= 12; i++) due("row", x.row(i == 4 ? 0 : 99), i);
        due("full", x.row(0), -6);
        due("full, below", x.row(-1), -4);
        promise(35);
        due("clear", x.clear(), 12);
        due("clear", x.clear(), 0);
        due("row", x.row(5), 1);
    }

    private static void gusts() {
        promise(31);
        MarkToBoard x = with("n04;j0050005000203;");
        due("none", x.gusts(0), -9);
        row(x, 9, 18, 0, 18);
        due("most in a tail wind", x.gusts(0), 1);
        x.mark(0, 202);
        due("which is a FOUL now", x.gusts(0), 0);
        due("it stays", x.count(8), 4);
        due("WIND stays", x.wind(0), 0);
        x.mark(0, 0);
        due("all FOULS", x.gusts(0), 0);
        x.row(19);
        due("-3", x.gusts(0), -3);
        due("-1", x.gusts(1), -1);
    }

    private static void ons() {
        promise(32);
        MarkToBoard x = with(THREE);
        part("on 0", x.on(0, 0), x.on(0, 1), 7, 8);
        part("on 1", x.on(1, 0), x.on(1, 1), 3, 4);
        part("on 2", x.on(2, 0), x.on(2, 1), 3, 8);
        tries(x, -9);
        // 1 (195 or none) and 2 (162 or none) try yet.
        part("on 0 behind its FOUL", x.on(0, 0), x.on(0, 1), 3, 4);
        part("on 2", x.on(2, 0), x.on(2, 1), 1, 2);
        tries(x, 40);
        part("on 0, 2 alone tries yet", x.on(0, 0), x.on(0, 1), 1, 2);
        part("on 1", x.on(1, 0), x.on(1, 1), 1, 1);
        due("-1", x.on(3, 2), BIG + 1);
        due("-2", x.on(0, 2), BIG + 2);
        tries(x, 0, -9, 40, 0, -9, 40);
        part("the last of ROUND 2", x.on(0, 0), x.on(0, 1), 0, 1);
        tries(x, 0);
        due("-3", x.on(0, 0), BIG + 3);
        due("-2 ahead of -3", x.on(0, -1), BIG + 2);
        // A MEAN of 201.19 is 201: not longer than 201, but than 200.
        x = with("g1;n04;j0150005000201;j0550015000203;");
        tries(x, 0);
        part("by a MEAN cut", x.on(1, 0), x.on(1, 1), 0, 1);
        x.undo();
        tries(x, 1);
        part("by a MEAN cut", x.on(1, 0), x.on(1, 1), 1, 2);
        tries(x, 0, 0, 0, 0, 0);
        due("ROUND 3", x.on(1, 0), BIG + 3);
    }

    private static void judges() {
        promise(34);
        MarkToBoard x = with(THREE);
        due("none", x.judge(), -9);
        row(x, 55, 50);
        due("1 goes ahead", x.judge(), 1);
        due("none any more", x.count(8), 0);
        due("in mind alone", x.count(2), 0);
        row(x, 60, 61, 49, 0, 50);
        due("1 goes ahead of 190 by 200", x.judge(), 4);
        row(x, 50, 50, 50);
        due("alike: no other", x.judge(), -9);
        row(x, 49, 49, 50);
        due("2 alone", x.judge(), 2);
        x = with(ONE + "f;f;f;f;f;");
        row(x, 55, 60);
        due("OVER at the second", x.judge(), 1);
        due("then none", x.count(8), 0);
        tries(x, 0);
        row(x, 50);
        due("OVER", x.judge(), 0);
        x = new MarkToBoard();
        row(x, 50);
        due("nobody", x.judge(), 0);
    }

    private static void seeds() {
        promise(36);
        MarkToBoard x = with(ONE);
        due("first", x.seeds(0, 1, 1, 0), 1);
        due("LENGTHS", x.seeds(0, 1, 1, 1), 1206);
        due("two meets", x.seeds(0, 2, -7, 1), 2425);
        due("two meets", x.seeds(0, 2, -7, 0), 2);
        x.look(0, 1);
        due("looking", x.seeds(0, 1, 1, 1), 1214);
        x.look(0, 2);
        due("twenty", x.seeds(0, 20, -7, 1), 23777);
        due("in mind alone", x.count(2), 0);
        tries(x, 0, 0, 0, 0, 0, 0);
        due("OVER", x.seeds(0, 5, 1, 0), 5);
        due("OVER", x.seeds(0, 5, 1, 1), 0);
        x = with(THREE);
        due("0 by the same each time", x.seeds(0, 3, 9, 0), 3);
        due("six tries of 200 each", x.seeds(0, 3, 9, 1), 3600);
        due("1 goes on", x.seeds(1, 3, 9, 1), 3 * 6 * 195);
        due("2 has three", x.seeds(2, 3, 9, 1), 3 * 3 * 162);
        due("1 is never first", x.seeds(1, 20, 9, 0), 0);
        due("-1", x.seeds(3, 0, 1, 2), -1);
        due("-4", x.seeds(0, 0, 1, 2), -4);
        due("-6", x.seeds(0, 21, 1, 2), -6);
        due("-2", x.seeds(0, 1, 1, 2), -2);
    }

    private static void parts() {
        promise(37);
        MarkToBoard x = with(ONE);
        due("FOULS", x.parts(0, 0), 39);
        due("202", x.parts(0, 202), 2734);
        due("205", x.parts(0, 205), 312);
        due("206", x.parts(0, 206), 0);
        due("999", x.parts(0, 999), 0);
        due("-1", x.parts(1, -1), -1);
        due("-4", x.parts(0, -1), -4);
        due("-6", x.parts(0, 1000), -6);
    }

    private static void mores() {
        promise(38);
        MarkToBoard x = with("j0250005000200;" + ONE);
        due("by parts cut", x.more(1, 0), 3592);
        due("the other", x.more(0, 1), 3670);
        x.mark(0, 0);
        due("a FOUL is LENGTH 0", x.more(1, 0), 9996 - 39);
        due("never", x.more(0, 1), 0);
        due("the same", x.more(0, 0), -1);
        due("-1", x.more(0, 2), -1);
        due("-1", x.more(2, 0), -1);
        due("-1", x.more(-1, 0), -1);
    }

    private static void duels() {
        promise(39);
        MarkToBoard x = with(ONE + "j0050005000250;");
        due("the pair", x.duel(0, 1, 0), 0);
        due("by it", x.duel(0, 1, 1), 6365);
        due("SURE", x.duel(0, 1, 2), 6365);
        due("MARK stays", x.jumper(0, 7), 203);
        x = with(ONE + "j0950005000250;");
        // LENGTHS 209, 203, 197: with 209 9997, 9996, 9996 of the other's choices.
        due("the first pair of the least", x.duel(1, 0, 0), 1);
        due("by it", x.duel(1, 0, 1), 9996);
        due("SURE", x.duel(1, 0, 2), 9996);
        x = with("n04;w+2;j5150065040203;j0050035000203;");
        due("none", x.duel(0, 1, 0), -9);
        due("none", x.duel(0, 1, 1), -9);
        due("SURE", x.duel(0, 1, 2), 3381);
        due("the same", x.duel(1, 1, 0), -1);
        due("-1", x.duel(0, 2, 3), -1);
        due("-1", x.duel(2, 0, 0), -1);
        due("-2", x.duel(0, 1, 3), -2);
        due("-2", x.duel(0, 1, -1), -2);
    }

    private static void practices() {
        promise(40);
        due("PACE", with("n04;j0050005000203;").practice(0), 2);
        due("LOOK, PACE being 99", with("n04;j0050009900203;").practice(0), 3);
        due("SLIP", with("n04;j0050019900200;").practice(0), 0);
        due("LOOK less", with("n04;j1950009910203;").practice(0), 4);
        due("none", with("n04;j0050909900200;").practice(0), -9);
        due("always a FOUL", with("n04;j0050019920000;").practice(0), -9);
        MarkToBoard x = with(ONE);
        due("-1", x.practice(1), -1);
        x.practice(0);
        due("nothing changes", x.jumper(0, 5), 50);
    }

    private static void bestRuns() {
        promise(41);
        MarkToBoard x = with("w+3;j3650755140203;n20;");
        due("5", x.bestRun(0), 5);
        due("STRIDES stay", x.count(3), 20);
        due("of several the fewest", with("j0050005000203;").bestRun(0), 4);
        due("-1", x.bestRun(1), -1);
    }

    private static void marksIn() {
        promise(42);
        MarkToBoard x = with(ONE);
        due("0", x.markIn(0, 0), 200);
        due("9", x.markIn(0, 9), 203);
        due("-9", x.markIn(0, -9), 197);
        due("with AIM", with("n04;j1550015000203;").markIn(0, 0), 207);
        due("held", with("n20;j4999919900203;").markIn(0, 9), 2400);
        due("-1", x.markIn(1, 10), -1);
        due("-4", x.markIn(0, -10), -4);
        due("-6", x.markIn(0, 10), -6);
    }

    private static void fouled() {
        promise(43);
        MarkToBoard x = with(ONE);
        part("none", x.fouled(0, 0), x.fouled(0, 1), 0, 1);
        tries(x, -8);
        part("PASSED", x.fouled(0, 0), x.fouled(0, 1), 0, 1);
        tries(x, -9);
        part("one", x.fouled(0, 0), x.fouled(0, 1), 1, 1);
        tries(x, 0, 3, -9);
        part("two of four", x.fouled(0, 0), x.fouled(0, 1), 1, 2);
        due("-1", x.fouled(1, 2), BIG + 1);
        due("-2", x.fouled(0, 2), BIG + 2);
    }

    private static void betters() {
        promise(44);
        MarkToBoard x = with(ONE);
        due("none", x.better(0), 0);
        tries(x, -9, 10);
        due("the first behind a FOUL", x.better(0), 1);
        tries(x, 10);
        due("alike is not longer", x.better(0), 1);
        tries(x, -8, 9, 0);
        due("three", x.better(0), 3);
        due("-1", x.better(1), -1);
        x = with(ONE);
        tries(x, 300);
        due("LENGTH 0", x.better(0), 0);
    }

    private static void halves() {
        promise(45);
        MarkToBoard x = with(ONE);
        due("none", x.half(0), -9);
        tries(x, -8);
        due("PASSED", x.half(0), -9);
        tries(x, 10);
        due("195", x.half(0), 195);
        tries(x, 0);
        due("of two the lesser", x.half(0), 195);
        tries(x, 5);
        due("of three", x.half(0), 200);
        tries(x, -9);
        due("a FOUL is 0", x.half(0), 195);
        tries(x, -9);
        due("0 0 195 200 205", x.half(0), 195);
        due("-1", x.half(1), -1);
    }

    private static void safes() {
        promise(46);
        MarkToBoard x = with(THREE);
        due("0: as good as one of 200, 163", x.safe(0), 163);
        due("1 past 163", x.safe(1), 163);
        due("2 past one of 200, 200", x.safe(2), 201);
        x.wind(1);
        due("2, with WIND", x.safe(2), 203);
        x.wind(0);
        tries(x, 0, 0);
        due("0 has it", x.safe(0), 0);
        due("2 past 200 and 200", x.safe(2), 201);
        tries(x, 0, 0, 0, 0);
        due("GO ON 2 of 3", x.safe(1), 0);
        due("-1", x.safe(3), -1);
    }

    private static void mayStills() {
        promise(47);
        due("nobody", new MarkToBoard().mayStill(), 0);
        MarkToBoard x = with(THREE);
        due("all", x.mayStill(), 7);
        tries(x, 20);
        due("2 can't", x.mayStill(), 3);
        tries(x, 0, -9);
        // 1 has 200; 0 would have 200 and 180.
        due("0 by its second", x.mayStill(), 3);
        tries(x, -9, 0);
        due("1 has 200 and 200", x.mayStill(), 2);
        tries(x, -9, -9, -9, -9, -9, -9, -9, -9, -9, -8);
        due("OVER", x.mayStill(), 2);
        x = with("g1;" + ONE + "j0550015000203;n04;t05;t05;f;f;f;f;f;f;");
        due("both", x.mayStill(), 3);
        tries(x, -9);
        due("OVER: who is first", x.mayStill(), 1);
    }

    private static void images() {
        promise(48);
        MarkToBoard x = with(THREE);
        x.wind(4);
        tries(x, 3);
        due("image", x.image(), 1);
        promise(49);
        tries(x, 9, -9);
        x.mark(0, 7);
        x.look(1, 3);
        x.wind(-2);
        x.row(3);
        x.undo();
        x.undo();
        x.undo();
        x.undo();
        x.set(0, 12);
        x.set(1, 4);
        due("a fourth", tell(x, "j0550015000203;"), 1);
        x.feed('n');
        due("restore", x.restore(), 1);
        due("LENGTH", x.tried(0, 0), 205);
        due("MARK", x.jumper(0, 7), 200);
        due("LOOK", x.jumper(1, 6), 0);
        due("JUMPERS", x.count(0), 3);
        due("STRIDES", x.count(3), 4);
        due("GO ON", x.count(4), 2);
        due("WIND", x.wind(0), 4);
        due("letters stay", x.count(7), 1);
        due("ROW stays", x.count(8), 1);
        due("REFUSALS stay", x.count(13), 1);
        due("again", x.restore(), 1);
        due("WIND again", x.wind(0), 4);
        promise(48);
        x.undo();
        due("another", x.image(), 0);
        due("restore", x.restore(), 0);
        promise(49);
        due("-3", with(ONE).restore(), -3);
    }

    private static void counts() {
        promise(50);
        MarkToBoard x = with(THREE);
        tries(x, 0, -9, -9, -8);
        x.feed('x');
        row(x, 1, 2);
        x.jumper(9, 0);
        x.ranks(9);
        x.ranks(8);
        x.jump(0, 0);
        x.feed(-1);
        x.row(999);
        int[] want = {3, 1, 4, 4, 2, 2, 1, 1, 2, -9, -9, 1, 2, 1, 1, 0, 1, -9, -9};
        for (int w = 0; w < want.length; w++) due("count " + w, x.count(w), want[w]);
        due("count -1", x.count(-1), -9);
        due("count -12", x.count(-12), -9);
        due("count far", x.count(Integer.MIN_VALUE), -9);
        due("count far", x.count(Integer.MAX_VALUE), -9);
    }
}
