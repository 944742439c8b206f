/** Terms III: LEAST, ORDERS, SOUNDS, WITH and QUARRIES. */
final class EdgesOfOrders {
    private EdgesOfOrders() {
    }

    static void all() {
        leastLift();
        leastOfTheGreatest();
        likeOnes();
        theMost();
        lowestSet();
        leastOfTheSet();
        orders();
        eightSounds();
        soundOfTheKth();
        lowToHigh();
        heardOfSoMany();
        heardOrders();
        heardInEach();
        heardInSome();
        with();
        withOfLikeOnes();
        quarries();
    }

    private static void leastLift() {
        Edges.says("LEAST: an ORDER of all STONES with the least LIFT,");
        Edges.order(new WalledIn(), 0);
        WalledIn one = new WalledIn();
        one.stone(99, 20, 0, 0, 0);
        Edges.order(one, 1980, 0);
        WalledIn x = new WalledIn();
        x.stone(1, 0, 0, 0, 0);
        x.stone(2, 0, 0, 0, 0);
        x.stone(3, 0, 0, 0, 0);
        Edges.rule(x, "lift weight*laid;");
        Edges.order(x, 0 * 3 + 1 * 2 + 2 * 1, 2, 1, 0);
        Edges.rule(x, "lift weight*(2-laid);");
        Edges.order(x, 2 * 1 + 1 * 2 + 0 * 3, 0, 1, 2);
        WalledIn all = Edges.rule(Edges.stones(12), "lift (11-stone)*laid;");
        Edges.due("twelve: how many", all.least(-1), 12);
        Edges.due("twelve: the first", all.least(0), 0);
        Edges.due("twelve: the last", all.least(11), 11);
        Edges.due("twelve: beyond", all.least(12), -3);
        // The greater of two first steps can lead to the lesser sum.
        WalledIn y = Edges.rule(Edges.stones(2), "lift stone*(1+9*laid);");
        Edges.order(y, 1, 1, 0);
    }

    /** The law looks at the greatest heights there are, of the most stones there are. */
    private static void leastOfTheGreatest() {
        Edges.says("LEAST: an ORDER of all STONES with the least LIFT,");
        WalledIn x = new WalledIn();
        for (int i = 0; i < 12; i++) {
            x.stone(1, 20 - i, 0, 0, 0);
        }
        Edges.rule(x, "lift top+1;");
        Edges.order(x, 165, 11, 10, 9, 8, 7, 6, 5, 4, 3, 2, 1, 0);
        Edges.rule(x, "may top#20;");
        Edges.due("the highest is the last", x.orders(), 39916800);
        Edges.rule(x, "may top<0 or top>19;");
        Edges.due("the highest is the first", x.orders(), 39916800);
        WalledIn y = new WalledIn();
        for (int i = 0; i < 12; i++) {
            y.stone(99, 20, 99, 0, 0);
        }
        Edges.due("99 times 20, twelve times", y.least(-2), 12 * 1980);
        Edges.rule(y, "lift laid;");
        Edges.order(y, 66, 0, 1, 2, 3, 4, 5, 6, 7, 8, 9, 10, 11);
        Edges.due("all orders", y.orders(), 479001600);
        // Upon 1 alone 0 may not be laid, though upon both of them one lift would be left.
        WalledIn z = Edges.rule(Edges.stones(3), "may laid#1 or top#1 or stone#0;"
            + "lift (2-laid)*(1-laid)*5*(stone-1)*(stone-1)+laid*(laid-1)/2*(stone/2);");
        Edges.order(z, 0, 1, 2, 0);
    }

    private static void likeOnes() {
        Edges.says("of like ones the lowest first STONE, then second, ..;");
        Edges.order(Edges.stones(12), 66, 0, 1, 2, 3, 4, 5, 6, 7, 8, 9, 10, 11);
        WalledIn x = Edges.rule(Edges.stones(3), "lift stone*laid*(2-stone);");
        // Stone 1 costs its place; 0 and 2 cost nothing anywhere.
        Edges.order(x, 0, 1, 0, 2);
        WalledIn y = Edges.rule(Edges.stones(3), "lift 0;may laid#1 or stone=1;");
        Edges.order(y, 0, 0, 1, 2);
        WalledIn z = Edges.rule(Edges.stones(3), "lift 0;may laid#0 or stone=2;");
        Edges.order(z, 0, 2, 0, 1);
        WalledIn last = Edges.rule(Edges.stones(4), "lift 0;may laid#3 or stone=0;");
        Edges.order(last, 0, 1, 2, 3, 0);
    }

    private static void theMost() {
        Edges.says("if there is none: of the most STONES that some ORDER has,");
        for (int most = 0; most < 12; most++) {
            WalledIn x = Edges.rule(Edges.stones(12), "may laid<" + most + ";");
            Edges.due("at most " + most + ": orders of all", x.orders(), 0);
            Edges.due("at most " + most, x.least(-1), most);
            Edges.due("at most " + most + ": lift", x.least(-2), most * (most - 1) / 2);
            Edges.due("at most " + most + ": beyond", x.least(most), -3);
        }
        WalledIn all = Edges.rule(Edges.stones(12), "may laid<12;");
        Edges.due("all", all.least(-1), 12);
        WalledIn x = Edges.rule(Edges.stones(3), "may laid=0 and stone=2 or laid=1 and stone#0;");
        Edges.order(x, 2 + 1, 2, 1);
    }

    private static void lowestSet() {
        Edges.says("of these the lowest set (bits),");
        // Two stones whose numbers (and heights) come to 3: the set 9 lifts less than the set 6.
        WalledIn x = Edges.rule(Edges.stones(4),
            "may laid=0 or laid=1 and stone+top=3;lift stone*(3-stone);");
        Edges.order(x, 4, 1, 2);
        WalledIn y = Edges.rule(Edges.stones(4),
            "may laid=0 and stone>1 or laid=1 and stone+top=3;lift 0;");
        Edges.order(y, 0, 2, 1);
        WalledIn z = Edges.rule(Edges.stones(12), "may laid<3 and stone>8;");
        Edges.order(z, 9 + 10 + 11, 9, 10, 11);
    }

    private static void leastOfTheSet() {
        Edges.says("of it the ORDER of least LIFT, likewise.");
        WalledIn x = Edges.rule(Edges.stones(4),
            "may laid=0 or laid=1 and stone+top=3;lift (2-laid)*(3-stone);");
        Edges.order(x, 2 * 1 + 1 * 2, 2, 1);
        Edges.rule(x, "may laid=0 or laid=1 and stone+top=3;lift 5;");
        Edges.order(x, 10, 1, 2);
        Edges.rule(x, "may laid=0;lift 9999-stone;");
        Edges.order(x, 9999, 0);
    }

    private static void orders() {
        Edges.says("ORDERS: how many there are of all STONES.");
        WalledIn x = new WalledIn();
        Edges.due("of none", x.orders(), 1);
        long want = 1;
        for (int n = 1; n <= 12; n++) {
            x.stone(1, 0, 0, 0, 0);
            want *= n;
            Edges.due("of " + n, x.orders(), want);
        }
        Edges.rule(x, "may laid<11;");
        Edges.due("of eleven there are, of all none", x.orders(), 0);
        Edges.rule(x, "may laid=stone;");
        Edges.due("one", x.orders(), 1);
        Edges.rule(x, "may 1=2;");
        Edges.due("none", x.orders(), 0);
        WalledIn y = new WalledIn();
        y.stone(1, 0, 0, 0, 0);
        y.stone(1, 0, 0, 0, 0);
        y.stone(1, 0, 0, 3, 1);
        Edges.due("with need 1 of 2", y.orders(), 4);
        y.stone(1, 0, 0, 3, 2);
        Edges.due("and with need 2 of 2", y.orders(), 6);
    }

    private static void eightSounds() {
        Edges.says("SOUNDS (8 at most):");
        WalledIn x = Edges.stones(12);
        for (int i = 1; i <= 8; i++) {
            Edges.due("sound " + i, x.sound(0, 20), i);
        }
        Edges.due("the ninth", x.sound(0, 20), -1);
        Edges.due("about(7)", x.about(7), 8);
        Edges.heard(x, 19958400, 0, 4095);
    }

    private static void soundOfTheKth() {
        Edges.says("of the k-th STONE of an ORDER (1, 2, .., as they are told)");
        WalledIn x = Edges.stones(12);
        for (int i = 0; i < 8; i++) {
            x.sound(7 - i, 7 - i);
        }
        Edges.heard(x, 1, 255, 255);
        WalledIn y = Edges.rule(Edges.stones(3), "may laid#0 or stone=2;");
        y.sound(2, 2);
        Edges.heard(y, 1, 4, 4);
        y.sound(1, 1);
        Edges.heard(y, 1, 6, 6);
        y.hush();
        y.sound(1, 1);
        y.sound(2, 2);
        Edges.heard(y, 0, 0, 0);
    }

    private static void lowToHigh() {
        Edges.says("HEIGHT was from low to high.");
        WalledIn x = new WalledIn();
        for (int height : new int[] {4, 5, 7, 8, 0, 20}) {
            x.stone(1, height, 0, 0, 0);
        }
        x.sound(5, 7);
        Edges.heard(x, 2, 0, 6);
        x.hush();
        x.sound(5, 5);
        Edges.heard(x, 1, 2, 2);
        x.hush();
        x.sound(6, 6);
        Edges.heard(x, 0, 0, 0);
        x.hush();
        x.sound(0, 0);
        Edges.heard(x, 1, 16, 16);
        x.hush();
        x.sound(20, 20);
        Edges.heard(x, 1, 32, 32);
        x.hush();
        x.sound(0, 20);
        Edges.heard(x, 6, 0, 63);
        x.hush();
        x.sound(1, 19);
        Edges.heard(x, 4, 0, 15);
    }

    private static void heardOfSoMany() {
        Edges.says("HEARD: ORDERS of just so many STONES as there are SOUNDS that fit them all:");
        WalledIn x = Edges.stones(2);
        Edges.heard(x, 1, 0, 0);
        x.sound(0, 20);
        Edges.heard(x, 2, 0, 3);
        x.sound(0, 20);
        Edges.heard(x, 2, 3, 3);
        x.sound(0, 20);
        Edges.heard(x, 0, 0, 0);
        WalledIn none = new WalledIn();
        Edges.heard(none, 1, 0, 0);
        none.sound(0, 20);
        Edges.heard(none, 0, 0, 0);
        WalledIn y = Edges.stones(3);
        y.sound(0, 20);
        y.sound(2, 2);
        y.sound(0, 0);
        Edges.heard(y, 1, 7, 7);
        y.hush();
        y.sound(0, 20);
        y.sound(2, 2);
        y.sound(2, 2);
        Edges.heard(y, 0, 0, 0);
    }

    private static void heardOrders() {
        Edges.says("how many;");
        WalledIn x = Edges.stones(8);
        for (int i = 0; i < 8; i++) {
            x.sound(0, 20);
        }
        Edges.due("8 of 8", x.heard(0), 40320);
        Edges.rule(x, "may laid#3 or stone=3;");
        Edges.due("one of them told", x.heard(0), 5040);
        Edges.rule(x, "may laid<7;");
        Edges.due("none", x.heard(0), 0);
        WalledIn y = new WalledIn();
        y.stone(1, 0, 0, 0, 0);
        y.stone(1, 1, 0, 1, 1);
        y.sound(0, 1);
        Edges.due("1 is not borne at first", y.heard(0), 1);
    }

    private static void heardInEach() {
        Edges.says("STONES that each of them has (bits; 0, if there are none);");
        WalledIn x = Edges.stones(3);
        x.sound(2, 2);
        x.sound(0, 1);
        Edges.due("2, and one of 0 and 1", x.heard(1), 4);
        x.sound(0, 1);
        Edges.due("all", x.heard(1), 7);
        x.sound(0, 20);
        Edges.due("there are none", x.heard(1), 0);
        x.hush();
        Edges.due("one of no stones", x.heard(1), 0);
        WalledIn y = Edges.rule(Edges.stones(12), "may laid+stone=11;");
        for (int i = 0; i < 8; i++) {
            y.sound(0, 20);
        }
        Edges.due("11 down to 4", y.heard(1), 4095 - 15);
    }

    private static void heardInSome() {
        Edges.says("those that some has.");
        WalledIn x = Edges.stones(3);
        x.sound(2, 2);
        Edges.due("2", x.heard(2), 4);
        x.sound(0, 0);
        Edges.due("2 and 0", x.heard(2), 5);
        x.hush();
        x.sound(2, 2);
        x.sound(0, 1);
        Edges.due("2, and 0 or 1", x.heard(2), 7);
        x.sound(2, 2);
        Edges.due("there are none", x.heard(2), 0);
    }

    private static void with() {
        Edges.says("WITH a STONE (of LAID): the fewest STONES, it among them, without which the "
            + "rest of LAID STANDS:");
        WalledIn x = Edges.stones(3);
        x.stone(1, 0, 0, 7, 2);
        x.stone(1, 0, 0, 8, 1);
        Edges.due("of none laid", x.with(0), -1);
        x.lay(0);
        Edges.due("it alone is laid", x.with(0), 1);
        x.lay(1);
        Edges.due("nothing upon it", x.with(0), 1);
        x.lay(3);
        x.lay(4);
        Edges.due("3 needs both, 4 needs 3", x.with(0), 1 + 8 + 16);
        Edges.due("4 needs 3", x.with(3), 8 + 16);
        Edges.due("4 alone", x.with(4), 16);
        x.lay(2);
        Edges.due("3 has two others", x.with(0), 1);
        WalledIn pile = new WalledIn();
        for (int i = 0; i < 12; i++) {
            pile.stone(1, 0, 0, i == 0 ? 0 : 1 << i - 1, i == 0 ? 0 : 1);
            pile.lay(i);
        }
        for (int i = 0; i < 12; i++) {
            Edges.due("all from " + i + " on", pile.with(i), 4095 & -(1 << i));
        }
    }

    private static void withOfLikeOnes() {
        Edges.says("of like ones the lowest set.");
        // Without 0, all that need it must go; none of them can be chosen. So each WITH is one
        // set alone, the lowest and the fewest: what is not upon a stone stays.
        WalledIn x = new WalledIn();
        x.stone(1, 0, 0, 0, 0);
        x.stone(1, 0, 0, 0, 0);
        x.stone(1, 0, 0, 3, 2);
        x.stone(1, 0, 0, 3, 1);
        for (int i = 0; i < 4; i++) {
            x.lay(i);
        }
        Edges.due("with 0: 2, not 3", x.with(0), 1 + 4);
        Edges.due("with 1: 2, not 3", x.with(1), 2 + 4);
        Edges.due("with 3: it alone", x.with(3), 8);
    }

    private static void quarriesOf(String law, int want) {
        WalledIn x = new WalledIn();
        x.stone(7, 3, 50, 0, 0);
        Edges.due("text() of " + law, Check.read(x, law), 0);
        Edges.due("ahead of by: all", x.of(0, 3), 63);
        x.by(0);
        Edges.due(law, x.of(0, 3), want);
    }

    private static void quarries() {
        Edges.says("QUARRIES of a STONE: for which fits is so (without: all).");
        quarriesOf("", 63);
        quarriesOf("lift 1;may 1=2;", 63);
        quarriesOf("fits 1=1;", 63);
        quarriesOf("fits 1=2;", 0);
        quarriesOf("fits quarry=0 or quarry=5;", 33);
        quarriesOf("fits quarry*10=vein;", 32);
        quarriesOf("fits quarry>height;", 48);
        quarriesOf("fits quarry>=height;", 56);
    }
}
