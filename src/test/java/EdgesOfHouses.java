/** Terms IV: HOUSES, lending, ROWS, WINTER, TOWNS and the IMAGE. */
final class EdgesOfHouses {
    private EdgesOfHouses() {
    }

    static void all() {
        tenHouses();
        spare();
        owes();
        touching();
        lendsToOneItTouches();
        lendsOneAtLeast();
        owesLikewise();
        rowToItself();
        rowOfTouching();
        rowWithSpare();
        rowOfTheFewest();
        rowOfLikeOnes();
        winter();
        winterInGroups();
        winterByAnyOther();
        seed();
        draw();
        lendings();
        drawOfATouchedHouse();
        lendsIfItCan();
        noSecondDraw();
        oneStep();
        image();
        back();
        backOfSounds();
        backOfSteps();
        backOfAnswers();
    }

    private static void tenHouses() {
        Edges.says("HOUSES 0 .. 9 (told one by one):");
        WalledIn x = new WalledIn();
        for (int i = 0; i < 10; i++) {
            Edges.due("one that can't be takes no number", x.house(-1), -1);
            Edges.due("house " + i, x.house(0), i);
            Edges.due("houses", x.about(3), i + 1);
        }
        Edges.due("the 11th", x.house(0), -1);
        Edges.due("houses", x.about(3), 10);
        Edges.due("touch(0, 9)", x.touch(0, 9, true), true);
        Edges.due("touch(0, 10)", x.touch(0, 10, true), false);
        Edges.due("houseOf(9, 2)", x.houseOf(9, 2), 1);
        Edges.due("houseOf(10, 2)", x.houseOf(10, 2), -1000);
    }

    private static void spare() {
        Edges.says("SPARE (0 .. 99)");
        for (int wrong : new int[] {Edges.LOW, -1, 100, Edges.HIGH}) {
            Edges.due("house(" + wrong + ")", new WalledIn().house(wrong), -1);
        }
        for (int right : new int[] {0, 1, 98, 99}) {
            WalledIn x = new WalledIn();
            Edges.due("house(" + right + ")", x.house(right), 0);
            Edges.due("spare", x.houseOf(0, 0), right);
        }
    }

    private static void owes() {
        Edges.says("and OWES (at first 0; what it got less what it lent).");
        WalledIn x = Edges.houses(99, 99, 0);
        x.touch(0, 1, true);
        for (int i = 0; i < 3; i++) {
            Edges.due("at first", x.houseOf(i, 1), 0);
        }
        for (int i = 1; i <= 99; i++) {
            Edges.due("lend " + i, x.lend(0, 1), 99 - i);
        }
        Edges.due("lent 99", x.houseOf(0, 1), -99);
        Edges.due("got 99", x.houseOf(1, 1), 99);
        x.lend(1, 0);
        Edges.due("lent 99, got 1", x.houseOf(0, 1), -98);
        Edges.due("got 99, lent 1", x.houseOf(1, 1), 98);
        Edges.due("neither", x.houseOf(2, 1), 0);
    }

    private static void touching() {
        Edges.says("TOUCHING pairs (told).");
        WalledIn x = Edges.houses(1, 1, 1);
        Edges.due("none at first", x.houseOf(0, 2), 0);
        Edges.due("told", x.touch(0, 1, true), true);
        Edges.due("of one", x.houseOf(0, 2), 1);
        Edges.due("of the other", x.houseOf(1, 2), 1);
        Edges.due("of a third", x.houseOf(2, 2), 0);
        Edges.due("told twice", x.touch(1, 0, true), true);
        Edges.due("of one, still", x.houseOf(0, 2), 1);
        Edges.due("told not, the other way round", x.touch(1, 0, false), true);
        Edges.due("of one then", x.houseOf(0, 2), 0);
        Edges.due("of the other then", x.houseOf(1, 2), 0);
        Edges.due("one and the same", x.touch(1, 1, true), false);
        Edges.due("of itself", x.houseOf(1, 2), 0);
        WalledIn all = Edges.houses(1, 1, 1, 1, 1, 1, 1, 1, 1, 1);
        Edges.touchAll(all, 10);
        Edges.due("all nine others", all.houseOf(9, 2), 9);
        Edges.due("all nine others", all.houseOf(0, 2), 9);
    }

    private static void lendsToOneItTouches() {
        Edges.says("LENDS to a HOUSE that it TOUCHES:");
        WalledIn x = Edges.houses(5, 5, 5);
        x.touch(0, 1, true);
        Edges.due("to one it touches", x.lend(0, 1), 4);
        Edges.due("the other way", x.lend(1, 0), 5);
        Edges.due("to one it touches not", x.lend(0, 2), -1);
        Edges.due("to itself", x.lend(0, 0), -1);
        x.touch(0, 1, false);
        Edges.due("to one it touches no more", x.lend(0, 1), -1);
        Edges.due("spare stays", x.houseOf(0, 0), 5);
    }

    private static void lendsOneAtLeast() {
        Edges.says("its SPARE (1 at least) is one less, that one's one more;");
        WalledIn x = Edges.houses(2, 99, 0);
        x.touch(0, 1, true);
        x.touch(2, 1, true);
        Edges.due("of 2", x.lend(0, 1), 1);
        Edges.due("to 99", x.houseOf(1, 0), 100);
        Edges.due("of 1", x.lend(0, 1), 0);
        Edges.due("to 100", x.houseOf(1, 0), 101);
        Edges.due("of 0", x.lend(0, 1), -1);
        Edges.due("stays", x.houseOf(1, 0), 101);
        Edges.due("of 0 from the first on", x.lend(2, 1), -1);
        Edges.due("of 101", x.lend(1, 2), 100);
        Edges.due("of 1 that was lent", x.lend(2, 1), 0);
    }

    private static void owesLikewise() {
        Edges.says("OWES likewise: one less, one more.");
        WalledIn x = Edges.houses(2, 0);
        x.touch(0, 1, true);
        x.lend(0, 1);
        Edges.due("one less", x.houseOf(0, 1), -1);
        Edges.due("one more", x.houseOf(1, 1), 1);
        x.lend(1, 0);
        Edges.due("one more", x.houseOf(0, 1), 0);
        Edges.due("one less", x.houseOf(1, 1), 0);
        x.lend(1, 0);
        Edges.due("can't: as it was", x.houseOf(1, 1), 0);
    }

    private static void row(WalledIn x, int from, int to, int... houses) {
        Edges.due("row " + from + " to " + to, x.row(from, to, -1),
            houses.length == 0 ? -1 : houses.length);
        for (int i = 0; i < houses.length; i++) {
            Edges.due("row " + from + " to " + to + " at " + i, x.row(from, to, i), houses[i]);
        }
        Edges.due("row " + from + " to " + to + " beyond", x.row(from, to, houses.length), -1);
    }

    private static void rowToItself() {
        Edges.says("A ROW from a HOUSE to another one (to itself: it alone):");
        WalledIn x = Edges.houses(0, 5);
        row(x, 0, 0, 0);
        row(x, 1, 1, 1);
        row(x, 0, 1);
        x.touch(0, 1, true);
        row(x, 1, 1, 1);
        row(x, 1, 0, 1, 0);
    }

    private static void rowOfTouching() {
        Edges.says("HOUSES, each TOUCHING the one ahead, none twice,");
        WalledIn x = Edges.houses(1, 1, 1, 1, 1, 1, 1, 1, 1, 1);
        for (int i = 0; i < 9; i++) {
            x.touch(i, i + 1, true);
        }
        row(x, 0, 9, 0, 1, 2, 3, 4, 5, 6, 7, 8, 9);
        row(x, 9, 0, 9, 8, 7, 6, 5, 4, 3, 2, 1, 0);
        row(x, 8, 0, 8, 7, 6, 5, 4, 3, 2, 1, 0);
        row(x, 3, 4, 3, 4);
        x.touch(5, 4, false);
        row(x, 0, 9);
        row(x, 0, 4, 0, 1, 2, 3, 4);
        row(x, 9, 5, 9, 8, 7, 6, 5);
    }

    private static void rowWithSpare() {
        Edges.says("all but the last with SPARE 1 or more:");
        for (int empty = 0; empty < 4; empty++) {
            WalledIn x = new WalledIn();
            for (int i = 0; i < 4; i++) {
                x.house(i == empty ? 0 : 1);
            }
            for (int i = 0; i < 3; i++) {
                x.touch(i, i + 1, true);
            }
            if (empty == 3) {
                row(x, 0, 3, 0, 1, 2, 3);
            } else {
                row(x, 0, 3);
            }
        }
        WalledIn y = Edges.houses(1, 0);
        y.touch(0, 1, true);
        row(y, 0, 1, 0, 1);
        row(y, 1, 0);
        y.lend(0, 1);
        row(y, 0, 1);
        row(y, 1, 0, 1, 0);
    }

    private static void rowOfTheFewest() {
        Edges.says("the fewest;");
        WalledIn x = Edges.houses(1, 1, 1, 1, 1);
        x.touch(0, 1, true);
        x.touch(1, 2, true);
        x.touch(2, 4, true);
        row(x, 0, 4, 0, 1, 2, 4);
        x.touch(0, 3, true);
        x.touch(3, 4, true);
        row(x, 0, 4, 0, 3, 4);
        x.touch(0, 4, true);
        row(x, 0, 4, 0, 4);
    }

    private static void rowOfLikeOnes() {
        Edges.says("of like ones the lowest second HOUSE, then third, .. .");
        WalledIn x = Edges.houses(1, 1, 1, 1, 1, 1, 1);
        int[][] pairs = {{0, 2}, {0, 1}, {1, 5}, {2, 3}, {2, 4}, {5, 6}, {3, 6}, {4, 6}};
        for (int[] pair : pairs) {
            x.touch(pair[0], pair[1], true);
        }
        // Of 0 1 5 6, 0 2 3 6 and 0 2 4 6 the lowest second decides, not the third.
        row(x, 0, 6, 0, 1, 5, 6);
        x.touch(0, 1, false);
        row(x, 0, 6, 0, 2, 3, 6);
        row(x, 6, 0, 6, 3, 2, 0);
        x.touch(3, 6, false);
        row(x, 0, 6, 0, 2, 4, 6);
        // A lower second house that leads on in more houses is no like one.
        x.touch(0, 1, true);
        x.touch(1, 5, false);
        row(x, 0, 6, 0, 2, 4, 6);
        // Nor is one without spare.
        WalledIn y = Edges.houses(1, 0, 1, 0);
        y.touch(0, 1, true);
        y.touch(0, 2, true);
        y.touch(1, 3, true);
        y.touch(2, 3, true);
        row(y, 0, 3, 0, 2, 3);
    }

    /** Houses that owe so much: what is below 0 was lent, by each to one house more, and on. */
    private static WalledIn owing(int... owes) {
        WalledIn x = new WalledIn();
        for (int i = 0; i < owes.length; i++) {
            x.house(30);
        }
        Edges.touchAll(x, owes.length);
        int[] left = owes.clone();
        for (int i = 0; i < left.length; i++) {
            for (int j = 0; j < left.length; j++) {
                while (left[i] < 0 && left[j] > 0) {
                    x.lend(i, j);
                    left[i]++;
                    left[j]--;
                }
            }
        }
        for (int i = 0; i < owes.length; i++) {
            Edges.due("owes of " + i, x.houseOf(i, 1), owes[i]);
        }
        return x;
    }

    private static void winterOf(int want, int... owes) {
        Edges.due("winter of " + java.util.Arrays.toString(owes), owing(owes).winter(), want);
    }

    private static void winter() {
        Edges.says("WINTER: the fewest RETURNS");
        Edges.due("no houses", new WalledIn().winter(), 0);
        winterOf(0, 0);
        winterOf(0, 0, 0, 0, 0, 0, 0, 0, 0, 0, 0);
        winterOf(1, -1, 1);
        winterOf(1, 0, 0, 0, 0, 0, 0, 0, 0, -30, 30);
        winterOf(2, -2, 1, 1);
        winterOf(2, 3, -1, -2);
        winterOf(9, -9, 1, 1, 1, 1, 1, 1, 1, 1, 1);
    }

    private static void winterInGroups() {
        Edges.says("by which each OWES 0.");
        winterOf(2, -1, 1, -1, 1);
        winterOf(2, -1, -2, 1, 2);
        winterOf(5, -1, 1, -2, 2, -3, 3, -4, 4, -5, 5);
        winterOf(3, -3, 1, 1, 1);
        winterOf(3, -2, -2, 1, 3);
        winterOf(4, -3, -1, -2, 2, 2, 2);
        winterOf(4, -5, 2, 3, -7, 4, 3);
        winterOf(5, -4, 3, -7, 2, 3, 3);
        winterOf(6, -5, 2, 3, -7, 4, 3, -9, 4, 5, 0);
        winterOf(8, -4, -4, -4, 3, 3, 3, 3, -1, -1, 2);
    }

    private static void winterByAnyOther() {
        Edges.says("(each of any number of STONES from one HOUSE to any other one)");
        WalledIn x = Edges.houses(30, 0, 0);
        x.touch(0, 1, true);
        x.touch(1, 2, true);
        for (int i = 0; i < 30; i++) {
            x.lend(0, 1);
            x.lend(1, 2);
        }
        Edges.due("30 stones from 2 to 0, which it touches not", x.winter(), 1);
        x.touch(0, 1, false);
        x.touch(1, 2, false);
        Edges.due("none touches", x.winter(), 1);
    }

    private static void seed() {
        Edges.says("A TOWN by a SEED: X is SEED (0 .. 9999) * 9 + 4;");
        WalledIn x = Edges.houses(5, 5);
        x.touch(0, 1, true);
        for (int wrong : new int[] {Edges.LOW, -1, 10000, Edges.HIGH}) {
            Edges.due("seed " + wrong, x.town(wrong, 1), -1);
        }
        // 4 mod 2: 0 lends. 89995 mod 2: 1 lends.
        Edges.due("seed 0", x.town(0, 1), 1);
        Edges.due("0 lent", x.houseOf(0, 1), -1);
        Edges.due("seed 9999", x.town(9999, 1), 1);
        Edges.due("1 lent", x.houseOf(0, 1), 0);
        // 13 mod 2: 1 lends.
        Edges.due("seed 1", x.town(1, 1), 1);
        Edges.due("1 lent", x.houseOf(0, 1), 1);
    }

    /** What the draws of a town are, step by step, as the document tells them. */
    private static int[] draws(int seed, int n) {
        int[] all = new int[n];
        long x = seed * 9L + 4;
        for (int i = 0; i < n; i++) {
            all[i] = (int) x;
            x = (x * 181 + 37) % 30091;
        }
        return all;
    }

    private static void draw() {
        Edges.says("a draw by m: X mod m, X being (X * 181 + 37) mod 30091 then.");
        Edges.due("the second X of seed 0", draws(0, 2)[1], 761);
        for (int seed : new int[] {0, 1, 77, 3343, 3344, 5000, 9998, 9999}) {
            // All houses touch all others: each lending takes two draws.
            WalledIn x = Edges.houses(99, 99, 99, 99, 99, 99, 99, 99, 99, 99);
            Edges.touchAll(x, 10);
            int[] owes = new int[10];
            int[] all = draws(seed, 80);
            for (int i = 0; i < 80; i += 2) {
                int house = all[i] % 10;
                int to = all[i + 1] % 9;
                to += to >= house ? 1 : 0;
                owes[house]--;
                owes[to]++;
            }
            Edges.due("town(" + seed + ", 40)", x.town(seed, 40), 40);
            for (int i = 0; i < 10; i++) {
                Edges.due("seed " + seed + ": owes of " + i, x.houseOf(i, 1), owes[i]);
            }
        }
    }

    private static void lendings() {
        Edges.says("n lendings (1 .. 99): each: a HOUSE by a draw of all;");
        WalledIn x = Edges.houses(99, 99);
        x.touch(0, 1, true);
        for (int wrong : new int[] {Edges.LOW, -1, 0, 100, Edges.HIGH}) {
            Edges.due("n " + wrong, x.town(5, wrong), -1);
        }
        Edges.due("no step", x.about(6), 0);
        Edges.due("n 1", x.town(5, 1), 1);
        Edges.due("n 99", x.town(5, 99), 99);
        WalledIn one = Edges.houses(9);
        Edges.due("of one house", one.town(5, 99), 0);
        WalledIn ten = Edges.houses(9, 9, 9, 9, 9, 9, 9, 9, 9, 9);
        ten.touch(9, 0, true);
        // 85 * 9 + 4 = 769: house 9.
        Edges.due("house 9", ten.town(85, 1), 1);
        Edges.due("9 lent", ten.houseOf(9, 1), -1);
    }

    private static void drawOfATouchedHouse() {
        Edges.says("a draw by how many HOUSES it TOUCHES: the one of these that is so far from "
            + "the lowest on;");
        for (int seed = 0; seed < 60; seed++) {
            WalledIn x = Edges.houses(9, 9, 9, 9);
            x.touch(1, 0, true);
            x.touch(1, 2, true);
            x.touch(1, 3, true);
            int[] all = draws(seed, 2);
            int house = all[0] % 4;
            int[] touched = house == 1 ? new int[] {0, 2, 3} : new int[] {1};
            int to = touched[all[1] % touched.length];
            Edges.due("town(" + seed + ", 1)", x.town(seed, 1), 1);
            Edges.due("seed " + seed + ": lent by", x.houseOf(house, 1), -1);
            Edges.due("seed " + seed + ": lent to", x.houseOf(to, 1), 1);
        }
    }

    private static void lendsIfItCan() {
        Edges.says("it LENDS, if it can");
        // Seed 0: X is 4, 761, 17414, 22507, 11519, 8697: of two houses 0, 0, 1 lend.
        WalledIn x = Edges.houses(1, 0);
        x.touch(0, 1, true);
        Edges.due("of 1: it can", x.town(0, 1), 1);
        Edges.due("of 0: it can't", x.town(0, 1), 0);
        Edges.due("spare of 0", x.houseOf(0, 0), 0);
        x.undo();
        x.undo();
        Edges.due("0 can, 0 can't, 1 can", x.town(0, 3), 2);
        Edges.due("spare of 0", x.houseOf(0, 0), 1);
        Edges.due("owes of 0", x.houseOf(0, 1), 0);
        WalledIn none = Edges.houses(0, 0, 0);
        Edges.touchAll(none, 3);
        Edges.due("none can", none.town(5, 99), 0);
    }

    private static void noSecondDraw() {
        Edges.says("(a HOUSE that touches none: no second draw);");
        // Seed 1: X is 13, 2390, 11353. Of three houses 13 mod 3 is 1, which touches none: the
        // next house is 2390 mod 3, which is 2; by a second draw it would be 11353 mod 3: 1.
        WalledIn x = Edges.houses(1, 1, 1);
        x.touch(0, 2, true);
        Edges.due("town(1, 2)", x.town(1, 2), 1);
        Edges.due("2 lent", x.houseOf(2, 1), -1);
        Edges.due("0 got", x.houseOf(0, 1), 1);
        // A house that touches one: a second draw, by 1. 13 mod 2 is 1, 11353 mod 2 is 1.
        WalledIn y = Edges.houses(1, 1);
        y.touch(0, 1, true);
        Edges.due("town(1, 2)", y.town(1, 2), 1);
        Edges.due("1 lent", y.houseOf(1, 1), -1);
        // It touches one, but has none to lend: a second draw all the same.
        WalledIn z = Edges.houses(1, 0);
        z.touch(0, 1, true);
        Edges.due("town(1, 2)", z.town(1, 2), 0);
        Edges.due("0 has not lent", z.houseOf(0, 1), 0);
    }

    private static void oneStep() {
        Edges.says("how many did. (It is one STEP.)");
        WalledIn x = Edges.houses(9, 9, 9);
        Edges.due("none touches: none did", x.town(7, 99), 0);
        Edges.due("a step", x.about(6), 1);
        Edges.touchAll(x, 3);
        Edges.due("one did", x.town(7, 1), 1);
        Edges.due("a step more", x.about(6), 2);
        Edges.due("8 did", x.town(7, 8), 8);
        Edges.due("one step more", x.about(6), 3);
        Edges.due("undo", x.undo(), 2);
        Edges.due("undo", x.undo(), 1);
        for (int i = 0; i < 3; i++) {
            Edges.due("spare of " + i, x.houseOf(i, 0), 9);
            Edges.due("owes of " + i, x.houseOf(i, 1), 0);
        }
        Edges.due("undo", x.undo(), 0);
        Edges.due("undo of none", x.undo(), -1);
    }

    private static void image() {
        Edges.says("AN IMAGE: all as it is, STEPS as well, but the tape and the latest FAULT.");
        for (boolean isBrim : new boolean[] {false, true}) {
            WalledIn x = isBrim ? Towers.brim() : Towers.some();
            WalledIn twin = isBrim ? Towers.brim() : Towers.some();
            x.image();
            Edges.same("image", Whole.of(x), Whole.of(twin));
        }
        WalledIn x = Towers.some();
        Check.read(x, "lay 12;");
        Check.feed(x, "lay");
        x.image();
        Check.read(x, " x");
        Check.feed(x, "lay 1;");
        x.back();
        Edges.due("the tape is not of it", x.about(8), 6);
        Edges.due("the fault is not of it", x.fault(0), 1);
        Edges.due("nor its place", x.fault(1), 1);
        Edges.due("what stands on the tape", x.text(), 2);
        WalledIn y = new WalledIn();
        Check.read(y, "lay 12;");
        Check.feed(y, "lay");
        y.back();
        Edges.due("of the first image neither: the fault", y.fault(0), 2);
        Edges.due("the tape", y.about(8), 3);
    }

    private static void back() {
        Edges.says("BACK: all is so again.");
        for (int times = 1; times <= 2; times++) {
            WalledIn x = Towers.some();
            x.image();
            for (int i = 0; i < times; i++) {
                Towers.spoil(x);
                Edges.due("back()", x.back(), 2);
            }
            Towers.tapeAndFault(x);
            Edges.same("back " + times + " times", Whole.of(x), Whole.of(Towers.some()));
        }
        WalledIn brim = Towers.brim();
        brim.image();
        for (int i = 0; i < 30; i++) {
            brim.undo();
        }
        brim.hour(0);
        brim.hush();
        brim.touch(0, 1, false);
        brim.touch(0, 9, false);
        brim.touch(8, 9, true);
        brim.by(-1);
        Edges.due("back()", brim.back(), Integer.bitCount(Towers.LAID_OF_BRIM));
        Edges.same("back to the brim", Whole.of(brim), Whole.of(Towers.brim()));
    }

    private static void backOfSounds() {
        Edges.says("BACK: all is so again.");
        WalledIn x = Edges.stones(12);
        for (int i = 0; i < 8; i++) {
            x.sound(i, i + 1);
        }
        x.image();
        // The k-th is k or one more; from the first that is one more on, all are.
        Edges.heard(x, 9, 0, 511);
        for (int height : new int[] {0, 20}) {
            x.hush();
            for (int i = 0; i < 8; i++) {
                x.sound(height, height);
            }
            Edges.due("others", x.heard(0), 0);
            x.back();
            Edges.heard(x, 9, 0, 511);
        }
    }

    private static void backOfSteps() {
        Edges.says("BACK: all is so again.");
        WalledIn x = Edges.houses(99, 99);
        x.touch(0, 1, true);
        for (int i = 0; i < 40; i++) {
            x.lend(0, 1);
        }
        x.image();
        for (int i = 0; i < 30; i++) {
            x.undo();
        }
        for (int i = 0; i < 45; i++) {
            x.lend(1, 0);
        }
        x.back();
        Edges.due("about(6)", x.about(6), 30);
        for (int i = 29; i >= 0; i--) {
            Edges.due("undo", x.undo(), i);
            Edges.due("spare of 0", x.houseOf(0, 0), 99 - 10 - i);
            Edges.due("owes of 1", x.houseOf(1, 1), 10 + i);
        }
        Edges.due("undo of none", x.undo(), -1);
    }

    /** What was found out ahead of it is not what is so then. */
    private static void backOfAnswers() {
        Edges.says("BACK: all is so again.");
        WalledIn x = Edges.stones(3);
        x.image();
        Edges.due("orders", x.orders(), 6);
        x.stone(1, 1, 1, 0, 0);
        Edges.due("orders of one more", x.orders(), 24);
        Edges.due("least of one more", x.least(-1), 4);
        x.back();
        Edges.order(x, 3, 0, 1, 2);
        Edges.due("orders again", x.orders(), 6);
        Edges.rule(x, "may hour=laid and stone+laid=2;");
        Edges.order(x, 3, 2, 1, 0);
        x.hour(1);
        Edges.order(x, 0);
        x.back();
        Edges.order(x, 3, 0, 1, 2);
        x.house(1);
        x.house(0);
        x.touch(0, 1, true);
        x.image();
        x.lend(0, 1);
        Edges.due("winter of a debt", x.winter(), 1);
        Edges.due("row of none", x.row(0, 1, -1), -1);
        x.back();
        Edges.due("winter again", x.winter(), 0);
        Edges.due("row again", x.row(0, 1, -1), 2);
    }
}
