/** Terms II, last part: THE TEXT, what is PLAYED, what is done by hand, STEPS. */
final class EdgesOfSteps {
    private EdgesOfSteps() {
    }

    static void all() {
        theText();
        playedInOrder();
        playedToTheEnd();
        laidByHand();
        takenOutByHand();
        lentByHand();
        whatIsAStep();
        whatIsNone();
        thirtySteps();
        thirtyOneSteps();
        latestFirst();
        ofAllHouses();
        houseToldSince();
    }

    private static void theText() {
        Edges.says("THE TEXT (told; at first none) rules.");
        WalledIn x = Edges.stones(2);
        Edges.due("at first", x.about(5), -1);
        Check.read(x, "lift 40;may stone=0;fits quarry=0;");
        Check.read(x, "lift 50;may stone=1;fits quarry=5;");
        Edges.due("read, not told", x.about(5), -1);
        ruledAs(x, 1, 1, 63);
        Edges.due("the first", x.by(0), true);
        Edges.due("about(5)", x.about(5), 0);
        ruledAs(x, 40, 0, 1);
        Edges.due("the second", x.by(1), true);
        ruledAs(x, 50, 1, 32);
        Edges.due("one that is none", x.by(2), false);
        ruledAs(x, 50, 1, 32);
        Edges.due("none", x.by(-1), true);
        ruledAs(x, 1, 1, 63);
    }

    private static void ruledAs(WalledIn x, int lift, int may, int fits) {
        Edges.due("lift", x.of(1, 2), lift);
        Edges.due("may", x.of(1, 1), may);
        Edges.due("fits", x.of(1, 3), fits);
    }

    private static void playedInOrder() {
        Edges.says("PLAYED by a TEXT: its lay, out and lend clauses, in their order, as by hand;");
        WalledIn x = Edges.stones(12);
        x.house(1);
        x.house(1);
        x.touch(0, 1, true);
        Check.read(x, "lay 11;lift 9;lay 0;out 11;lend 0 to 1;may 1=2;lend 1 to 0;lend 1 to 0;");
        Edges.due("played", x.played(0), -1);
        Edges.due("laid", x.about(1), 1);
        Edges.due("steps", x.about(6), 6);
        Edges.due("spare of 0", x.houseOf(0, 0), 2);
        Edges.due("owes of 1", x.houseOf(1, 1), -1);
        Check.read(x, "");
        Edges.due("one of no clauses", x.played(1), -1);
        Check.read(x, "lift 1;may 1=2;fits 1=2;");
        Edges.due("one of laws alone", x.played(2), -1);
        Edges.due("no step", x.about(6), 6);
        x.by(2);
        Check.read(x, "lay 5;");
        Edges.due("as by hand: may is not so", x.played(3), 0);
    }

    private static void playedEnds(String text, int want, int laid, int steps) {
        WalledIn x = new WalledIn();
        x.stone(1, 0, 0, 0, 0);
        x.stone(1, 0, 0, 1, 1);
        x.house(1);
        x.house(0);
        x.touch(0, 1, true);
        Check.read(x, text);
        Edges.due("played " + text, x.played(0), want);
        Edges.due("laid by " + text, x.about(1), laid);
        Edges.due("steps by " + text, x.about(6), steps);
    }

    private static void playedToTheEnd() {
        Edges.says("one that can't be ends it: its number among all CLAUSES (from 0); "
            + "what was done stays.");
        playedEnds("lay 0;lay 1;", -1, 3, 2);
        playedEnds("lay 1;lay 0;", 0, 0, 0);
        playedEnds("lay 0;lay 0;lay 1;", 1, 1, 1);
        playedEnds("lift 1;lay 2;lay 0;", 1, 0, 0);
        playedEnds("lift 1;may 1=1;fits 1=1;lay 0;out 1;", 4, 1, 1);
        playedEnds("out 0;", 0, 0, 0);
        playedEnds("lay 0;lay 1;out 0;", 2, 3, 2);
        playedEnds("lend 0 to 1;lend 0 to 1;", 1, 0, 1);
        playedEnds("lend 1 to 0;", 0, 0, 0);
        playedEnds("lend 0 to 0;", 0, 0, 0);
        playedEnds("lend 0 to 2;", 0, 0, 0);
        playedEnds("lend 9 to 0;", 0, 0, 0);
        playedEnds("lay 11;", 0, 0, 0);
        playedEnds("lay 0;out 0;".repeat(11) + "lay 0;out 1;", 23, 1, 23);
        playedEnds("lay 0;out 0;".repeat(12), -1, 0, 24);
    }

    private static void laidByHand() {
        Edges.says("BY HAND: a STONE is LAID, if it MAY be upon LAID;");
        WalledIn x = new WalledIn();
        x.stone(1, 0, 0, 0, 0);
        x.stone(1, 0, 0, 0, 0);
        x.stone(1, 0, 0, 3, 2);
        Edges.due("lay(2) upon none", x.lay(2), -1);
        x.lay(0);
        Edges.due("lay(2) upon one", x.lay(2), -1);
        Edges.due("lay(0), which is laid", x.lay(0), -1);
        x.lay(1);
        Edges.due("lay(2) upon both", x.lay(2), 0);
        Edges.due("laid", x.about(1), 7);
        WalledIn y = Edges.rule(Edges.stones(3), "may laid<2;");
        Edges.due("the first", y.lay(0), 0);
        Edges.due("the second", y.lay(1), 1);
        Edges.due("the third", y.lay(2), -1);
    }

    private static void takenOutByHand() {
        Edges.says("is taken OUT, if it is LAID, and the others STAND;");
        WalledIn x = new WalledIn();
        x.stone(1, 0, 0, 0, 0);
        x.stone(1, 0, 0, 0, 0);
        x.stone(1, 0, 0, 0, 0);
        x.stone(1, 0, 0, 7, 2);
        Edges.due("out(0), which is not laid", x.out(0), -1);
        x.lay(0);
        x.lay(1);
        x.lay(2);
        x.lay(3);
        Edges.due("out(0): 3 has two yet", x.out(0), 3);
        Edges.due("out(1): 3 would have one", x.out(1), -1);
        Edges.due("out(0) once more", x.out(0), -1);
        Edges.due("out(3)", x.out(3), 2);
        Edges.due("out(1) then", x.out(1), 1);
        Edges.due("out(2), the last", x.out(2), 0);
        Edges.due("out(2) of none", x.out(2), -1);
        WalledIn y = Edges.stones(1);
        y.lay(0);
        Edges.rule(y, "may 1=2;");
        Edges.due("may says nothing of it", y.out(0), 0);
    }

    private static void lentByHand() {
        Edges.says("a HOUSE lends (see below).");
        WalledIn x = Edges.houses(1, 0);
        Edges.due("without touching", x.lend(0, 1), -1);
        x.touch(0, 1, true);
        Edges.due("lend(0, 1)", x.lend(0, 1), 0);
        Edges.due("lend(0, 1) of none", x.lend(0, 1), -1);
        Edges.due("steps", x.about(6), 1);
    }

    private static WalledIn forSteps() {
        WalledIn x = Edges.stones(2);
        x.house(2);
        x.house(2);
        x.touch(0, 1, true);
        Check.read(x, "out 0;lay 0;lend 0 to 1;");
        return x;
    }

    private static void whatIsAStep() {
        Edges.says("STEPS: all these,");
        WalledIn x = forSteps();
        x.lay(0);
        Edges.due("lay", x.about(6), 1);
        x.out(0);
        Edges.due("out", x.about(6), 2);
        x.lend(1, 0);
        Edges.due("lend", x.about(6), 3);
        x.lay(0);
        x.played(0);
        Edges.due("lay, and three that are played", x.about(6), 7);
        x.played(0);
        Edges.due("three more", x.about(6), 10);
        x.undo();
        Edges.due("the lend is taken back alone", x.about(1), 1);
        x.undo();
        Edges.due("the lay is taken back", x.about(1), 0);
        x.town(1, 9);
        Edges.due("a town is one", x.about(6), 9);
    }

    private static void whatIsNone() {
        Edges.says("STEPS: all these,");
        WalledIn x = forSteps();
        x.stone(1, 1, 1, 0, 0);
        x.hour(5);
        x.house(5);
        x.touch(0, 2, true);
        x.by(0);
        x.sound(1, 2);
        x.hush();
        x.image();
        x.back();
        Edges.due("what is told", x.about(6), 0);
        x.lay(-1);
        x.lay(12);
        x.out(0);
        x.lend(0, 0);
        x.lend(0, 3);
        x.town(10000, 5);
        x.town(5, 100);
        x.played(0);
        x.played(3);
        Edges.due("what can't be", x.about(6), 0);
        Edges.due("nothing to take back", x.undo(), -1);
    }

    /** Each of n lendings leaves one less to house 0, of 99: how many were done can be seen. */
    private static WalledIn afterSteps(int n) {
        WalledIn x = Edges.houses(99, 0);
        x.touch(0, 1, true);
        for (int i = 1; i <= n; i++) {
            Edges.due("step " + i, x.lend(0, 1), 99 - i);
            Edges.due("steps", x.about(6), Math.min(30, i));
        }
        return x;
    }

    /** Takes back all that can be, from where so many were done on. */
    private static void undoAll(WalledIn x, int done) {
        int can = Math.min(30, done);
        for (int i = 1; i <= can; i++) {
            Edges.due("undo " + i + " of " + done, x.undo(), can - i);
            Edges.due("about(6)", x.about(6), can - i);
            Edges.due("spare of 0", x.houseOf(0, 0), 99 - done + i);
            Edges.due("owes of 1", x.houseOf(1, 1), done - i);
        }
        Edges.due("undo of none", x.undo(), -1);
        Edges.due("about(6) of none", x.about(6), 0);
        Edges.due("spare of 0 stays", x.houseOf(0, 0), 99 - done + can);
    }

    private static void thirtySteps() {
        Edges.says("the latest 30 can be taken back,");
        undoAll(afterSteps(1), 1);
        undoAll(afterSteps(29), 29);
        WalledIn x = afterSteps(30);
        undoAll(x, 30);
        Edges.due("from none on", x.lend(0, 1), 98);
        Edges.due("one", x.about(6), 1);
        undoAll(x, 1);
    }

    private static void thirtyOneSteps() {
        Edges.says("the latest 30 can be taken back,");
        for (int n : new int[] {31, 32, 59, 60, 61, 90, 91, 99}) {
            undoAll(afterSteps(n), n);
        }
        WalledIn x = afterSteps(45);
        for (int i = 0; i < 20; i++) {
            x.undo();
        }
        Edges.due("ten are left", x.about(6), 10);
        for (int i = 26; i <= 60; i++) {
            Edges.due("step " + i, x.lend(0, 1), 99 - i);
        }
        Edges.due("30 again", x.about(6), 30);
        undoAll(x, 60);
    }

    private static void latestFirst() {
        Edges.says("the latest first");
        WalledIn x = Edges.stones(12);
        for (int i = 0; i < 12; i++) {
            x.lay(i);
        }
        for (int i = 11; i >= 0; i--) {
            Edges.due("undo", x.undo(), i);
            Edges.due("laid", x.about(1), (1 << i) - 1);
        }
        WalledIn y = forSteps();
        y.lay(0);
        y.lend(0, 1);
        y.out(0);
        y.lend(1, 0);
        Edges.due("undo the second lend", y.undo(), 3);
        Edges.due("spare of 0", y.houseOf(0, 0), 1);
        Edges.due("owes of 1", y.houseOf(1, 1), 1);
        Edges.due("laid", y.about(1), 0);
        Edges.due("undo out", y.undo(), 2);
        Edges.due("laid", y.about(1), 1);
        Edges.due("spare of 0", y.houseOf(0, 0), 1);
        Edges.due("undo the first lend", y.undo(), 1);
        Edges.due("spare of 0", y.houseOf(0, 0), 2);
        Edges.due("owes of 0", y.houseOf(0, 1), 0);
        Edges.due("undo lay", y.undo(), 0);
        Edges.due("laid", y.about(1), 0);
        Edges.due("undo of none", y.undo(), -1);
    }

    private static void ofAllHouses() {
        Edges.says("the latest first");
        WalledIn x = Edges.houses(2, 3, 4, 5, 6, 7, 8, 9, 10, 11);
        Edges.touchAll(x, 10);
        for (int i = 0; i < 10; i++) {
            x.lend(i, (i + 1) % 10);
            x.lend(i, (i + 4) % 10);
        }
        Edges.due("can be taken back", x.about(6), 20);
        for (int i = 19; i >= 0; i--) {
            Edges.due("undo", x.undo(), i);
        }
        for (int i = 0; i < 10; i++) {
            Edges.due("spare of " + i, x.houseOf(i, 0), i + 2);
            Edges.due("owes of " + i, x.houseOf(i, 1), 0);
        }
        x.lend(9, 8);
        x.lend(9, 8);
        x.undo();
        Edges.due("one of two taken back: owes of 9", x.houseOf(9, 1), -1);
        Edges.due("one of two taken back: owes of 8", x.houseOf(8, 1), 1);
        Edges.due("one of two taken back: spare of 9", x.houseOf(9, 0), 10);
        x.undo();
        x.town(8, 99);
        x.undo();
        for (int i = 0; i < 10; i++) {
            Edges.due("behind a town: spare of " + i, x.houseOf(i, 0), i + 2);
            Edges.due("behind a town: owes of " + i, x.houseOf(i, 1), 0);
        }
    }

    private static void houseToldSince() {
        Edges.says("(a HOUSE told since is then as it was told).");
        WalledIn x = Edges.houses(9, 0);
        x.touch(0, 1, true);
        x.lend(0, 1);
        Edges.due("told since", x.house(99), 2);
        Edges.due("told since too", x.house(0), 3);
        x.touch(2, 3, true);
        x.touch(2, 0, true);
        x.lend(2, 3);
        x.lend(2, 0);
        Edges.due("undo", x.undo(), 2);
        Edges.due("undo", x.undo(), 1);
        Edges.due("spare of 2", x.houseOf(2, 0), 99);
        Edges.due("undo the one ahead of it", x.undo(), 0);
        Edges.due("houses", x.about(3), 4);
        Edges.due("spare of 2", x.houseOf(2, 0), 99);
        Edges.due("spare of 3", x.houseOf(3, 0), 0);
        Edges.due("owes of 2", x.houseOf(2, 1), 0);
        Edges.due("owes of 3", x.houseOf(3, 1), 0);
        Edges.due("2 touches", x.houseOf(2, 2), 2);
        Edges.due("spare of 0", x.houseOf(0, 0), 9);
        Edges.due("spare of 1", x.houseOf(1, 0), 0);
    }
}
