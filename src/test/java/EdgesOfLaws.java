/** Terms II, second part: NAMES, and what a SUM and an EITHER come to. */
final class EdgesOfLaws {
    private EdgesOfLaws() {
    }

    static void all() {
        namesOfAStone();
        besides();
        laid();
        top();
        hour();
        quarry();
        fromTheLeft();
        division();
        bound();
        eachStep();
        bothSides();
    }

    private static void namesOfAStone() {
        Edges.says("NAMES: stone, weight, height, vein;");
        String[] names = {"stone", "weight", "height", "vein"};
        int[] most = {11, 99, 20, 99};
        int[] least = {0, 1, 0, 0};
        WalledIn x = new WalledIn();
        x.stone(1, 0, 0, 0, 0);
        for (int i = 1; i < 12; i++) {
            x.stone(99, 20, 99, 0, 0);
        }
        x.image();
        for (int i = 0; i < names.length; i++) {
            x.back();
            Edges.rule(x, "lift " + names[i] + ";");
            Edges.due("lift " + names[i] + " of 0", x.of(0, 2), least[i]);
            Edges.due("lift " + names[i] + " of 11", x.of(11, 2), most[i]);
            Edges.rule(x, "may " + names[i] + "=" + most[i] + ";");
            Edges.due("may " + names[i] + " of 0", x.of(0, 1), 0);
            Edges.due("may " + names[i] + " of 11", x.of(11, 1), 1);
            Edges.rule(x, "fits " + names[i] + "=" + least[i] + ";");
            Edges.due("fits " + names[i] + " of 0", x.of(0, 3), 63);
            Edges.due("fits " + names[i] + " of 11", x.of(11, 3), 0);
        }
        Edges.fault("lift Stone;", 1, 5);
        Edges.fault("lift stones;", 1, 5);
        Edges.fault("lift ston;", 1, 5);
        Edges.fault("lift need;", 1, 5);
    }

    private static void besides() {
        Edges.says("of lift and may besides:");
        for (String name : new String[] {"laid", "top", "hour"}) {
            Edges.right("lift " + name + ";");
            Edges.right("may 1<" + name + ";");
            Edges.fault("fits 1<" + name + ";", 5, 7);
        }
    }

    private static void laid() {
        Edges.says("laid (how many are of the set),");
        WalledIn x = Edges.rule(Edges.stones(12), "lift laid;");
        for (int i = 0; i < 12; i++) {
            Edges.due("of(11, 2) upon " + i, x.of(11, 2), i);
            Edges.due("lay(" + i + ")", x.lay(i), i);
            Edges.due("without it", x.of(i, 2), i);
        }
        Edges.due("of(0, 2) upon the eleven others", x.of(0, 2), 11);
    }

    private static void top() {
        Edges.says("top (the greatest HEIGHT of them; -1 of none),");
        WalledIn x = new WalledIn();
        for (int height : new int[] {0, 20, 5, 7}) {
            x.stone(1, height, 0, 0, 0);
        }
        Edges.rule(x, "lift top + 1; may top < 20;");
        Edges.due("of none", x.of(0, 2), 0);
        Edges.due("lay a height of 0", x.lay(0), 0);
        Edges.due("of a height of 0", x.of(3, 2), 1);
        Edges.due("without it, of none", x.of(0, 2), 0);
        x.lay(2);
        Edges.due("of 0 and 5", x.of(3, 2), 6);
        x.lay(3);
        Edges.due("of 0, 5 and 7", x.of(1, 2), 8);
        Edges.due("of 0 and 7", x.of(2, 2), 8);
        Edges.due("of 0 and 5, without 7", x.of(3, 2), 6);
        x.out(2);
        Edges.due("of 0 and 7, without 5", x.of(2, 2), 8);
        x.lay(1);
        Edges.due("of 20", x.of(2, 2), 21);
        Edges.due("may upon 20", x.of(2, 1), 0);
        WalledIn y = Edges.rule(Edges.stones(2), "may top = -1;");
        Edges.due("may upon none", y.of(1, 1), 1);
        Edges.due("orders of one", y.least(-1), 1);
    }

    private static void hourOf(int hour, int laid, int want) {
        WalledIn x = Edges.stones(12);
        x.hour(hour);
        for (int i = 0; i < laid; i++) {
            x.lay(i);
        }
        Edges.rule(x, "lift hour;");
        Edges.due("hour " + hour + " upon " + laid, x.of(11, 2), want);
    }

    private static void hour() {
        Edges.says("hour (HOUR and laid, by 24 what is left);");
        hourOf(0, 0, 0);
        hourOf(0, 11, 11);
        hourOf(23, 0, 23);
        hourOf(23, 1, 0);
        hourOf(23, 2, 1);
        hourOf(23, 11, 10);
        hourOf(13, 10, 23);
        hourOf(13, 11, 0);
        hourOf(12, 11, 23);
        WalledIn x = Edges.rule(Edges.stones(12), "may hour > 12 or hour < 11;");
        x.hour(23);
        Edges.due("orders from 23 to 10", x.orders(), 479001600);
        x.hour(0);
        Edges.due("orders from 0 to 11", x.orders(), 0);
        x.hour(13);
        Edges.due("orders from 13 to 0", x.orders(), 479001600);
        x.hour(12);
        Edges.due("orders from 12 on", x.orders(), 0);
    }

    private static void quarriesBy(String either, int want) {
        Edges.due("fits " + either, Edges.ruled("fits " + either + ";").of(0, 3), want);
    }

    private static void quarry() {
        Edges.says("of fits besides: quarry (0 .. 5).");
        quarriesBy("quarry < 0", 0);
        quarriesBy("quarry = 0", 1);
        quarriesBy("quarry = 1", 2);
        quarriesBy("quarry = 4", 16);
        quarriesBy("quarry = 5", 32);
        quarriesBy("quarry = 6", 0);
        quarriesBy("quarry >= 0 and quarry <= 5", 63);
        quarriesBy("quarry > 5", 0);
        Edges.fault("lift quarry;", 5, 5);
        Edges.fault("may quarry<1;", 5, 4);
    }

    private static void fromTheLeft() {
        Edges.says("From the left;");
        Edges.lift("10-3-2", 5);
        Edges.lift("10-3+2", 9);
        Edges.lift("100/10/5", 2);
        Edges.lift("7/2*2", 6);
        Edges.lift("2*7/2", 7);
        Edges.lift("100/(10/5)", 50);
        Edges.lift("10-(3-2)", 9);
        Edges.lift("1000*1000+1-1000*1000+1", 1);
    }

    private static void division() {
        Edges.says("/ cuts towards 0, by 0 it is 0;");
        Edges.lift("7/2", 3);
        Edges.lift("6/2", 3);
        Edges.lift("5/2", 2);
        Edges.lift("10+-7/2", 7);
        Edges.lift("10+7/-2", 7);
        Edges.lift("-7/-2", 3);
        Edges.lift("10+(0-7)/2", 7);
        Edges.lift("10+(0-1)/2", 10);
        Edges.lift("1/2", 0);
        Edges.lift("5/1", 5);
        Edges.lift("10+5/-1", 5);
        Edges.lift("7+5/0", 7);
        Edges.lift("7+-5/0", 7);
        Edges.lift("7+0/0", 7);
        Edges.lift("7+5/(1-1)", 7);
        Edges.lift("7+5/(top+1)", 7);
        Edges.lift("7+5/0*3", 7);
        Edges.may("5/0=0", true);
        quarriesBy("12/quarry=0", 1);
    }

    private static void bound() {
        Edges.says("what is above 1000000 (below the same less) is that,");
        Edges.may("1000*1000-1=999*1001", true);
        Edges.may("999*1001+1=1000*1000", true);
        Edges.may("1000*1000#999*1001", true);
        Edges.may("1000*1000+1=1000*1000", true);
        Edges.may("1000*1001=1000*1000", true);
        Edges.may("9999*9999=1000*1000", true);
        Edges.may("1000*1000--1=1000*1000", true);
        Edges.may("-1000*1000+1=-999*1001", true);
        Edges.may("-999*1001-1=-1000*1000", true);
        Edges.may("-1000*1000#-999*1001", true);
        Edges.may("-1000*1000-1=-1000*1000", true);
        Edges.may("-1000*1001=-1000*1000", true);
        Edges.may("-(1000*1001)=-1000*1000", true);
        Edges.may("1000*-1001=-1000*1000", true);
        Edges.may("-1000*-1001=1000*1000", true);
        Edges.may("-1000*1000<1000*1000", true);
    }

    private static void eachStep() {
        Edges.says("at each step.");
        Edges.lift("1000*1000+5-999*1001", 1);
        Edges.lift("(1000*1000+5)-999*1001", 1);
        Edges.lift("1000*1001/1000", 1000);
        Edges.lift("2000+-1000*1001/1000", 1000);
        Edges.lift("9999*9999*9999*9999*9999*9999/1000", 1000);
        Edges.lift("2000+-9999*9999*9999*9999*9999/1000", 1000);
        Edges.lift("(1000*1000+1000*1000+1000*1000)/1000", 1000);
        Edges.lift("2000+(0-1000*1000-1000*1000-1000*1000)/1000", 1000);
        Edges.lift("(1000*1000)*(1000*1000)/1000", 1000);
        Edges.lift("0-1000*1000-5+999*1001+2", 1);
        Edges.lift("-(0-1000*1000-5)-999*1001", 1);
    }

    private static void bothSides() {
        Edges.says("or and and look at both sides always.");
        Edges.may("1=1 or 5/0=1", true);
        Edges.may("5/0=1 or 1=1", true);
        Edges.may("1=2 and 5/0=0", false);
        Edges.may("5/0=0 and 1=2", false);
        for (int i = 0; i < 4; i++) {
            String left = i / 2 + "=1";
            String right = i % 2 + "=1";
            Edges.may(left + " or " + right, i != 0);
            Edges.may(left + " and " + right, i == 3);
            Edges.may("not " + left + " or not " + right, i != 3);
            Edges.may("not " + left + " and not " + right, i == 0);
        }
    }
}
