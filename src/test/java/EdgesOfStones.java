/** Terms I: STONES, what bears them, HOUR and LIFT. */
final class EdgesOfStones {
    private EdgesOfStones() {
    }

    static void all() {
        twelveStones();
        weight();
        height();
        vein();
        bearers();
        need();
        laidAtFirst();
        hour();
        hourOfAnOrder();
        borne();
        stands();
        mayBeLaid();
        lift();
        order();
        liftOfAnOrder();
    }

    private static void twelveStones() {
        Edges.says("STONES 0 .. 11 (told one by one):");
        WalledIn x = new WalledIn();
        for (int i = 0; i < 12; i++) {
            Edges.due("one that can't be takes no number", x.stone(0, 0, 0, 0, 0), -1);
            Edges.due("stone " + i, x.stone(1, 0, 0, 0, 0), i);
            Edges.due("stones", x.about(0), i + 1);
        }
        Edges.due("the 13th", x.stone(1, 0, 0, 0, 0), -1);
        Edges.due("stones", x.about(0), 12);
        Edges.due("lay(11)", x.lay(11), 0);
        Edges.due("lay(12)", x.lay(12), -1);
        Edges.due("lay(0)", x.lay(0), 0);
        Edges.due("lay(-1)", x.lay(-1), -1);
    }

    private static void weight() {
        Edges.says("WEIGHT (1 .. 99)");
        for (int weight : new int[] {Edges.LOW, -1, 0, 100, Edges.HIGH}) {
            Edges.due("weight " + weight, new WalledIn().stone(weight, 1, 0, 0, 0), -1);
        }
        for (int weight : new int[] {1, 2, 98, 99}) {
            WalledIn x = new WalledIn();
            Edges.due("weight " + weight, x.stone(weight, 1, 0, 0, 0), 0);
            Edges.due("lift of weight " + weight, x.of(0, 2), weight);
        }
    }

    private static void height() {
        Edges.says("HEIGHT (0 .. 20)");
        for (int height : new int[] {Edges.LOW, -1, 21, Edges.HIGH}) {
            Edges.due("height " + height, new WalledIn().stone(1, height, 0, 0, 0), -1);
        }
        for (int height : new int[] {0, 1, 19, 20}) {
            WalledIn x = new WalledIn();
            Edges.due("height " + height, x.stone(1, height, 0, 0, 0), 0);
            Edges.due("lift of height " + height, x.of(0, 2), height);
        }
    }

    private static void vein() {
        Edges.says("VEIN (0 .. 99)");
        for (int vein : new int[] {Edges.LOW, -1, 100, Edges.HIGH}) {
            Edges.due("vein " + vein, new WalledIn().stone(1, 0, vein, 0, 0), -1);
        }
        for (int vein : new int[] {0, 1, 98, 99}) {
            WalledIn x = new WalledIn();
            Edges.due("vein " + vein, x.stone(1, 0, vein, 0, 0), 0);
            Edges.rule(x, "lift vein;");
            Edges.due("lift of vein " + vein, x.of(0, 2), vein);
        }
    }

    private static void bearers() {
        Edges.says("BEARERS (a set of STONES told ahead, bits)");
        WalledIn x = new WalledIn();
        for (int i = 0; i < 12; i++) {
            Edges.due("itself, of stone " + i, x.stone(1, 0, 0, 1 << i, 0), -1);
            Edges.due("all and itself, of stone " + i, x.stone(1, 0, 0, (2 << i) - 1, 0), -1);
            Edges.due("none such, of stone " + i, x.stone(1, 0, 0, 1 << 12, 0), -1);
            Edges.due("-1, of stone " + i, x.stone(1, 0, 0, -1, 0), -1);
            Edges.due("LOW, of stone " + i, x.stone(1, 0, 0, Edges.LOW, 0), -1);
            Edges.due("HIGH, of stone " + i, x.stone(1, 0, 0, Edges.HIGH, 0), -1);
            Edges.due("all ahead, of stone " + i, x.stone(1, 0, 0, (1 << i) - 1, 0), i);
            Edges.due("about(10 + " + i + ")", x.about(10 + i), (1 << i) - 1);
        }
    }

    private static void need() {
        Edges.says("and NEED (0 .. how many these are).");
        for (int bearers = 0; bearers < 12; bearers++) {
            int set = (1 << bearers) - 1;
            for (int wrong : new int[] {Edges.LOW, -1, bearers + 1, Edges.HIGH}) {
                WalledIn x = Edges.stones(bearers);
                Edges.due(wrong + " of " + bearers, x.stone(1, 0, 0, set, wrong), -1);
            }
            for (int need : new int[] {0, bearers}) {
                WalledIn x = Edges.stones(bearers);
                Edges.due(need + " of " + bearers, x.stone(1, 0, 0, set, need), bearers);
                Edges.due("about(30 + " + bearers + ")", x.about(30 + bearers), need);
            }
        }
        WalledIn x = Edges.stones(3);
        Edges.due("3 of the set 5", x.stone(1, 0, 0, 5, 3), -1);
        Edges.due("2 of the set 5", x.stone(1, 0, 0, 5, 2), 3);
    }

    private static void laidAtFirst() {
        Edges.says("LAID: a set (at first none).");
        WalledIn x = Edges.stones(12);
        Edges.due("about(1)", x.about(1), 0);
        for (int i = 0; i < 12; i++) {
            Edges.due("of(" + i + ", 0)", x.of(i, 0), 0);
        }
        for (int i = 0; i < 12; i++) {
            x.lay(i);
        }
        Edges.due("all: about(1)", x.about(1), 4095);
    }

    private static void hour() {
        Edges.says("HOUR 0 .. 23 (at first 0)");
        WalledIn x = new WalledIn();
        Edges.due("at first", x.about(2), 0);
        for (int wrong : new int[] {Edges.LOW, -1, 24, Edges.HIGH}) {
            Edges.due("hour " + wrong, x.hour(wrong), false);
            Edges.due("about(2)", x.about(2), 0);
        }
        Edges.due("hour 23", x.hour(23), true);
        Edges.due("about(2)", x.about(2), 23);
        Edges.due("hour 24", x.hour(24), false);
        Edges.due("about(2)", x.about(2), 23);
        Edges.due("hour 0", x.hour(0), true);
        Edges.due("about(2)", x.about(2), 0);
    }

    private static void hourOfAnOrder() {
        Edges.says("is that at which the first STONE of an order is laid.");
        WalledIn x = Edges.stones(1);
        Edges.rule(x, "may hour = 23;");
        x.hour(22);
        Edges.due("orders from 22 on", x.orders(), 0);
        x.hour(23);
        Edges.due("orders from 23 on", x.orders(), 1);
        x.hour(0);
        Edges.due("orders from 0 on", x.orders(), 0);
    }

    /** Stones 0 to 3 without bearers; 4 needs 2 of 0, 1, 2; 5 needs all three. */
    private static WalledIn borneStones() {
        WalledIn x = Edges.stones(4);
        x.stone(1, 0, 0, 7, 2);
        x.stone(1, 0, 0, 7, 3);
        return x;
    }

    private static void borneBy(int set, int want4, int want5) {
        WalledIn x = borneStones();
        for (int i = 0; i < 4; i++) {
            if ((set >> i & 1) == 1) {
                x.lay(i);
            }
        }
        Edges.due("4 by the set " + set, x.of(4, 4), want4);
        Edges.due("5 by the set " + set, x.of(5, 4), want5);
    }

    private static void borne() {
        Edges.says("BORNE by a set: a STONE of whose BEARERS as many as NEED, or more, "
            + "are of the set.");
        borneBy(0, 0, 0);
        borneBy(1, 0, 0);
        borneBy(9, 0, 0);
        borneBy(3, 1, 0);
        borneBy(5, 1, 0);
        borneBy(6, 1, 0);
        borneBy(14, 1, 0);
        borneBy(7, 1, 1);
        Edges.due("that needs none, by none", borneStones().of(0, 4), 1);
    }

    private static void stands() {
        Edges.says("A set STANDS, if each STONE of it is BORNE by it.");
        WalledIn x = borneStones();
        Edges.due("none", x.stands(0), true);
        Edges.due("all", x.stands(63), true);
        Edges.due("4 upon one", x.stands(16 + 1), false);
        Edges.due("4 upon two", x.stands(16 + 3), true);
        Edges.due("4 upon one and another", x.stands(16 + 9), false);
        Edges.due("5 upon two", x.stands(32 + 3), false);
        Edges.due("5 upon three", x.stands(32 + 7), true);
        Edges.due("4 and 5 upon two: one is not borne", x.stands(48 + 3), false);
        WalledIn y = new WalledIn();
        y.stone(1, 0, 0, 0, 0);
        y.stone(1, 0, 0, 1, 1);
        y.stone(1, 0, 0, 2, 1);
        Edges.due("2 upon 1, which is not borne", y.stands(6), false);
        Edges.due("2 upon 1 upon 0", y.stands(7), true);
    }

    private static void mayOf(String law, int want0, int want1) {
        WalledIn x = new WalledIn();
        x.stone(1, 0, 0, 0, 0);
        x.stone(1, 0, 0, 1, 1);
        if (!law.isEmpty()) {
            Edges.rule(x, law);
        }
        Edges.due("0, borne, by '" + law + "'", x.of(0, 1), want0);
        Edges.due("1, not borne, by '" + law + "'", x.of(1, 1), want1);
    }

    private static void mayBeLaid() {
        Edges.says("A STONE MAY be LAID upon a set (without it): it is BORNE by the set, "
            + "and may is so (without: so).");
        mayOf("", 1, 0);
        mayOf("lift 1;", 1, 0);
        mayOf("may 1 = 1;", 1, 0);
        mayOf("may 1 = 2;", 0, 0);
        mayOf("may stone = 0;", 1, 0);
        mayOf("may stone = 1;", 0, 0);
        mayOf("fits 1 = 2;", 1, 0);
        WalledIn x = Edges.rule(Edges.stones(2), "may laid = 1;");
        Edges.due("upon none", x.of(0, 1), 0);
        x.by(-1);
        x.lay(1);
        x.by(0);
        Edges.due("upon one", x.of(0, 1), 1);
        Edges.due("upon a set that has it", x.of(1, 1), 0);
    }

    private static void lift() {
        Edges.says("LIFT: lift (0 at least, 9999 at most; without: WEIGHT times HEIGHT).");
        Edges.lift("0-9999*9999", 0);
        Edges.lift("-1", 0);
        Edges.lift("0", 0);
        Edges.lift("1", 1);
        Edges.lift("9998", 9998);
        Edges.lift("9999", 9999);
        Edges.lift("9999+1", 9999);
        Edges.lift("9999*9999", 9999);
        WalledIn x = new WalledIn();
        x.stone(99, 20, 0, 0, 0);
        x.stone(1, 0, 0, 0, 0);
        x.stone(99, 0, 0, 0, 0);
        x.stone(1, 20, 0, 0, 0);
        for (String law : new String[] {"may 1 = 1;", ""}) {
            Edges.rule(x, law);
            Edges.due("99 times 20", x.of(0, 2), 1980);
            Edges.due("1 times 0", x.of(1, 2), 0);
            Edges.due("99 times 0", x.of(2, 2), 0);
            Edges.due("1 times 20", x.of(3, 2), 20);
        }
        x.by(-1);
        Edges.due("99 times 20, by no text", x.of(0, 2), 1980);
    }

    private static void order() {
        Edges.says("An ORDER: STONES, one behind the other, from no STONE on, each of which MAY "
            + "be LAID upon those ahead;");
        WalledIn x = Edges.rule(Edges.stones(3), "may laid = stone;");
        Edges.order(x, 0 + 1 + 2, 0, 1, 2);
        Edges.due("one", x.orders(), 1);
        Edges.rule(x, "may laid # 0;");
        Edges.order(x, 0);
        Edges.due("none can be the first", x.orders(), 0);
        Edges.rule(x, "may laid < 3;");
        Edges.due("all", x.orders(), 6);
        Edges.rule(x, "may laid < 2;");
        Edges.due("none can be the last", x.orders(), 0);
        x.lay(0);
        Edges.order(x, 1, 0, 1);
        WalledIn y = new WalledIn();
        y.stone(1, 0, 0, 0, 0);
        y.stone(1, 0, 0, 1, 1);
        Edges.due("1 behind 0", y.orders(), 1);
        y.lay(0);
        Edges.due("from no stone on", y.orders(), 1);
    }

    private static void liftOfAnOrder() {
        Edges.says("its LIFT: all together.");
        WalledIn x = Edges.rule(Edges.stones(12), "lift 9999 + 1;");
        Edges.due("twelve times the most", x.least(-2), 12 * 9999);
        Edges.rule(x, "lift -1;");
        Edges.due("twelve times the least", x.least(-2), 0);
        Edges.rule(x, "lift laid;");
        Edges.due("0 to 11", x.least(-2), 66);
    }
}
