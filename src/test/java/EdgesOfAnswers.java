/** Promises 17 to 30: what is taken back, found out and told. */
final class EdgesOfAnswers {
    private static final int LOW = Edges.LOW;
    private static final int HIGH = Edges.HIGH;

    private EdgesOfAnswers() {
    }

    static void all() {
        undo();
        least();
        leastForOthers();
        orders();
        sound();
        soundBeyond();
        hush();
        heard();
        with();
        houseOf();
        row();
        rowForOthers();
        winter();
        town();
        image();
        back();
        about();
        aboutStones();
        aboutOthers();
    }

    private static void undo() {
        Edges.in("Promise 17: undo");
        Edges.says("The latest STEP is taken back: how many can be yet.");
        WalledIn x = Towers.brim();
        for (int left = 29; left >= 0; left--) {
            Edges.due("undo()", x.undo(), left);
            Edges.due("about(6)", x.about(6), left);
        }
        Edges.says("NONE: there is none.");
        Edges.due("the 31st", x.undo(), -1);
        Edges.due("once more", x.undo(), -1);
        Edges.due("about(6)", x.about(6), 0);
        Edges.due("of a new object", new WalledIn().undo(), -1);
        WalledIn y = Edges.stones(1);
        y.lay(0);
        Edges.due("the only one", y.undo(), 0);
        Edges.due("about(1)", y.about(1), 0);
        Edges.due("none left", y.undo(), -1);
        Edges.due("about(1)", y.about(1), 0);
    }

    private static void least() {
        Edges.in("Promise 18: least");
        Edges.says("LEAST: what NONE: how many STONES, -2: LIFT; else the STONE that is laid so "
            + "many behind the first (0 ..).");
        Edges.order(new WalledIn(), 0);
        WalledIn x = Edges.rule(Edges.stones(12), "may laid+stone=11;lift 9999;");
        Edges.order(x, 119988, 11, 10, 9, 8, 7, 6, 5, 4, 3, 2, 1, 0);
        Edges.rule(x, "may laid+stone=11 and laid<11;lift 1;");
        Edges.order(x, 11, 11, 10, 9, 8, 7, 6, 5, 4, 3, 2, 1);
        Edges.rule(x, "may 1=2;");
        Edges.order(x, 0);
    }

    private static void leastForOthers() {
        Edges.says("-3 for others.");
        WalledIn x = Edges.stones(12);
        for (int wrong : new int[] {LOW, -4, -3, 12, 13, HIGH}) {
            Edges.due("least(" + wrong + ") of 12", x.least(wrong), -3);
        }
        Edges.due("least(11) of 12", x.least(11), 11);
        Edges.rule(x, "may laid<5;");
        Edges.due("least(4) of 5", x.least(4), 4);
        Edges.due("least(5) of 5", x.least(5), -3);
        Edges.due("least(0) of none", new WalledIn().least(0), -3);
    }

    private static void orders() {
        Edges.in("Promise 19: orders");
        Edges.says("ORDERS.");
        Edges.due("of no stones", new WalledIn().orders(), 1);
        Edges.due("of one", Edges.stones(1).orders(), 1);
        Edges.due("of one that may not", Edges.ruled("may 1=2;").orders(), 0);
        Edges.due("of 11", Edges.stones(11).orders(), 39916800);
        Edges.due("of 12", Edges.stones(12).orders(), 479001600);
    }

    private static void sound() {
        Edges.in("Promise 20: sound");
        Edges.says("One SOUND more (HEIGHTS 0 .. 20, low at most high): how many there are.");
        WalledIn x = new WalledIn();
        int[][] right = {{0, 0}, {20, 20}, {0, 20}, {19, 20}, {0, 1}, {7, 7}, {7, 8}, {20, 20}};
        for (int i = 0; i < right.length; i++) {
            Edges.due("sound(" + right[i][0] + ", " + right[i][1] + ")",
                x.sound(right[i][0], right[i][1]), i + 1);
            Edges.due("about(7)", x.about(7), i + 1);
        }
    }

    private static void soundBeyond() {
        Edges.says("NONE for others,");
        int[][] wrong = {{-1, 0}, {-1, -1}, {0, -1}, {0, 21}, {21, 21}, {20, 21}, {21, 20}, {8, 7},
            {20, 0}, {LOW, 5}, {5, HIGH}, {LOW, HIGH}, {HIGH, LOW}};
        for (int[] each : wrong) {
            EdgesOfTelling.refused("sound(" + each[0] + ", " + each[1] + ")", -1,
                x -> x.sound(each[0], each[1]));
        }
        Edges.says("or if there are 8.");
        EdgesOfTelling.refusedAtTheBrim("the ninth", -1, x -> x.sound(0, 20));
    }

    private static void hush() {
        Edges.in("Promise 21: hush");
        Edges.says("No SOUNDS: how many there were.");
        WalledIn x = Edges.stones(2);
        Edges.due("none", x.hush(), 0);
        for (int i = 0; i < 8; i++) {
            x.sound(0, 20);
        }
        Edges.due("eight", x.hush(), 8);
        Edges.due("about(7)", x.about(7), 0);
        Edges.due("none then", x.hush(), 0);
        Edges.heard(x, 1, 0, 0);
        Edges.due("the first again", x.sound(1, 1), 1);
        Edges.heard(x, 1, 2, 2);
    }

    private static void heard() {
        Edges.in("Promise 22: heard");
        Edges.says("HEARD: 0 how many, 1 STONES of each (bits), 2 of some.");
        WalledIn x = Edges.stones(3);
        x.sound(2, 2);
        x.sound(0, 1);
        Edges.heard(x, 2, 4, 7);
        WalledIn full = Edges.stones(12);
        for (int i = 0; i < 8; i++) {
            full.sound(0, 20);
        }
        Edges.heard(full, 19958400, 0, 4095);
        Edges.says("NONE for others.");
        for (int wrong : new int[] {LOW, -1, 3, HIGH}) {
            Edges.due("heard(" + wrong + ")", x.heard(wrong), -1);
        }
    }

    private static void with() {
        Edges.in("Promise 23: with");
        Edges.says("WITH a STONE (bits).");
        WalledIn x = new WalledIn();
        for (int i = 0; i < 12; i++) {
            x.stone(1, 0, 0, (1 << i) - 1, i);
            x.lay(i);
        }
        Edges.due("with(0)", x.with(0), 4095);
        Edges.due("with(1)", x.with(1), 4094);
        Edges.due("with(11)", x.with(11), 2048);
        Edges.says("NONE: it isn't LAID, and for others.");
        x.out(11);
        Edges.due("with(11), not laid", x.with(11), -1);
        Edges.due("with(10)", x.with(10), 1024);
        for (int wrong : new int[] {LOW, -1, 12, 32, 42, HIGH}) {
            Edges.due("with(" + wrong + ")", x.with(wrong), -1);
        }
        Edges.due("with(0) of no stones", new WalledIn().with(0), -1);
    }

    private static void houseOf() {
        Edges.in("Promise 24: houseOf");
        Edges.says("Of a HOUSE: 0 SPARE, 1 OWES, 2 how many it TOUCHES.");
        WalledIn x = Edges.houses(0, 0, 0, 0, 0, 0, 0, 0, 0, 99);
        x.touch(9, 0, true);
        x.touch(9, 8, true);
        x.lend(9, 0);
        Edges.due("houseOf(9, 0)", x.houseOf(9, 0), 98);
        Edges.due("houseOf(9, 1)", x.houseOf(9, 1), -1);
        Edges.due("houseOf(9, 2)", x.houseOf(9, 2), 2);
        Edges.due("houseOf(0, 0)", x.houseOf(0, 0), 1);
        Edges.due("houseOf(0, 1)", x.houseOf(0, 1), 1);
        Edges.due("houseOf(0, 2)", x.houseOf(0, 2), 1);
        Edges.says("-1000 for others.");
        for (int wrong : new int[] {LOW, -1, 3, HIGH}) {
            Edges.due("houseOf(9, " + wrong + ")", x.houseOf(9, wrong), -1000);
        }
        for (int what = 0; what < 3; what++) {
            for (int wrong : new int[] {LOW, -1, 10, 11, 32, HIGH}) {
                Edges.due("houseOf(" + wrong + ", " + what + ")", x.houseOf(wrong, what), -1000);
            }
            Edges.due("of two, houseOf(2, " + what + ")", Edges.houses(1, 1).houseOf(2, what),
                -1000);
        }
    }

    private static void row() {
        Edges.in("Promise 25: row");
        Edges.says("A ROW: how many HOUSES (i NONE); the i-th.");
        WalledIn x = Edges.houses(1, 1, 1, 1, 1, 1, 1, 1, 1, 0);
        for (int i = 0; i < 9; i++) {
            x.touch(i, i + 1, true);
        }
        Edges.due("how many", x.row(0, 9, -1), 10);
        for (int i = 0; i < 10; i++) {
            Edges.due("row(0, 9, " + i + ")", x.row(0, 9, i), i);
        }
        Edges.due("to itself", x.row(9, 9, -1), 1);
        Edges.due("to itself, 0", x.row(9, 9, 0), 9);
        Edges.says("NONE: none, there is none such,");
        Edges.due("from one without spare", x.row(9, 0, -1), -1);
        Edges.due("from one without spare, 0", x.row(9, 0, 0), -1);
        for (int wrong : new int[] {LOW, -3, -2, 10, 11, HIGH}) {
            Edges.due("row(0, 9, " + wrong + ")", x.row(0, 9, wrong), -1);
        }
        Edges.due("row(0, 1, 1)", x.row(0, 1, 1), 1);
        Edges.due("row(0, 1, 2)", x.row(0, 1, 2), -1);
        Edges.due("to itself, 1", x.row(9, 9, 1), -1);
    }

    private static void rowForOthers() {
        Edges.says("and for others.");
        WalledIn x = Edges.houses(1, 1);
        x.touch(0, 1, true);
        for (int wrong : new int[] {LOW, -1, 2, 10, 32, HIGH}) {
            for (int i = -1; i < 2; i++) {
                Edges.due("row(0, " + wrong + ", " + i + ")", x.row(0, wrong, i), -1);
                Edges.due("row(" + wrong + ", 0, " + i + ")", x.row(wrong, 0, i), -1);
                Edges.due("row(" + wrong + ", itself, " + i + ")", x.row(wrong, wrong, i), -1);
            }
        }
        WalledIn ten = Edges.houses(1, 1, 1, 1, 1, 1, 1, 1, 1, 1);
        Edges.due("row(9, 9, -1) of ten", ten.row(9, 9, -1), 1);
        Edges.due("row(10, 10, -1) of ten", ten.row(10, 10, -1), -1);
        Edges.due("row(0, 0, -1) of none", new WalledIn().row(0, 0, -1), -1);
    }

    private static void winter() {
        Edges.in("Promise 26: winter");
        Edges.says("WINTER: how many RETURNS.");
        Edges.due("of no houses", new WalledIn().winter(), 0);
        WalledIn x = Edges.houses(9, 1, 1, 1, 1, 1, 1, 1, 1, 1);
        Edges.touchAll(x, 10);
        Edges.due("of no debts", x.winter(), 0);
        for (int i = 1; i < 10; i++) {
            x.lend(0, i);
            Edges.due("of " + i + " that got one", x.winter(), i);
        }
        x.lend(1, 0);
        Edges.due("of one debt less", x.winter(), 8);
        Edges.due("it changes nothing", x.houseOf(0, 1), -8);
    }

    private static void town() {
        Edges.in("Promise 27: town");
        Edges.says("A TOWN by a SEED.");
        WalledIn x = Edges.houses(9, 9);
        x.touch(0, 1, true);
        Edges.due("town(0, 1)", x.town(0, 1), 1);
        Edges.due("town(9999, 99)", x.town(9999, 99) >= 1, true);
        Edges.due("about(6)", x.about(6), 2);
        Edges.says("NONE for others,");
        int[][] wrong = {{-1, 1}, {10000, 1}, {0, 0}, {0, 100}, {0, -1}, {9999, 100}, {LOW, 1},
            {HIGH, 1}, {0, LOW}, {0, HIGH}, {LOW, LOW}, {HIGH, HIGH}};
        for (int[] each : wrong) {
            EdgesOfTelling.refused("town(" + each[0] + ", " + each[1] + ")", -1,
                y -> y.town(each[0], each[1]));
        }
        Edges.says("and without HOUSES.");
        WalledIn none = Edges.stones(1);
        Edges.due("town(0, 1)", none.town(0, 1), -1);
        Edges.due("no step", none.about(6), 0);
        none.house(0);
        Edges.due("with one house", none.town(0, 1), 0);
        Edges.due("a step", none.about(6), 1);
    }

    private static void image() {
        Edges.in("Promise 28: image");
        Edges.says("THE IMAGE is as all is now: how many STONES are LAID.");
        WalledIn x = Edges.stones(12);
        Edges.due("none", x.image(), 0);
        for (int i = 0; i < 12; i++) {
            x.lay(i);
        }
        Edges.due("twelve", x.image(), 12);
        x.undo();
        Edges.due("back to the latest image", x.back(), 12);
        x.out(3);
        Edges.due("another image", x.image(), 11);
        x.lay(3);
        Edges.due("back to that", x.back(), 11);
        Edges.due("about(1)", x.about(1), 4095 - 8);
    }

    private static void back() {
        Edges.in("Promise 29: back");
        Edges.says("BACK to THE IMAGE (it stays): how many STONES are LAID.");
        Edges.due("of a new object", new WalledIn().back(), 0);
        WalledIn x = Edges.stones(12);
        for (int i = 0; i < 12; i++) {
            x.lay(i);
        }
        x.image();
        for (int times = 0; times < 3; times++) {
            for (int i = 0; i < 12; i++) {
                x.undo();
            }
            Edges.due("none", x.about(1), 0);
            Edges.due("back()", x.back(), 12);
            Edges.due("all", x.about(1), 4095);
            Edges.due("steps", x.about(6), 12);
        }
        Edges.due("back() at once", x.back(), 12);
    }

    private static void about() {
        Edges.in("Promise 30: about");
        Edges.says("0 STONES, 1 LAID (bits), 2 HOUR, 3 HOUSES, 4 TEXTS, 5 THE TEXT (NONE), "
            + "6 STEPS that can be taken back, 7 SOUNDS, 8 bytes of the tape,");
        int[] first = {0, 0, 0, 0, 0, -1, 0, 0, 0};
        int[] some = {4, 9, 7, 3, 2, 0, 3, 2, 7};
        int[] brim = {12, Towers.LAID_OF_BRIM, 23, 10, 4, 0, 30, 8, 300};
        for (int i = 0; i < 9; i++) {
            Edges.due("at first: about(" + i + ")", new WalledIn().about(i), first[i]);
            Edges.due("of some: about(" + i + ")", Towers.some().about(i), some[i]);
            Edges.due("at the brim: about(" + i + ")", Towers.brim().about(i), brim[i]);
        }
    }

    private static void aboutStones() {
        Edges.says("10 + stone: its BEARERS, 30 + stone: NEED.");
        WalledIn x = new WalledIn();
        for (int i = 0; i < 12; i++) {
            Edges.due("about(10 + " + i + ") ahead", x.about(10 + i), -2);
            Edges.due("about(30 + " + i + ") ahead", x.about(30 + i), -2);
            x.stone(1, 0, 0, (1 << i) - 1, i);
            Edges.due("about(10 + " + i + ")", x.about(10 + i), (1 << i) - 1);
            Edges.due("about(30 + " + i + ")", x.about(30 + i), i);
        }
    }

    private static void aboutOthers() {
        Edges.says("-2 for others.");
        for (int wrong : new int[] {LOW, -2, -1, 9, 22, 23, 29, 42, 43, 100, HIGH}) {
            Edges.due("about(" + wrong + ")", Towers.brim().about(wrong), -2);
        }
        for (int wrong : new int[] {9, 14, 21, 34, 41}) {
            Edges.due("of four stones: about(" + wrong + ")", Towers.some().about(wrong), -2);
        }
        Edges.due("about(13)", Towers.some().about(13), 5);
        Edges.due("about(33)", Towers.some().about(33), 1);
    }
}
