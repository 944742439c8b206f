/** Each promise of the document: ordinary inputs, the edges that it names, wrong inputs. */
public final class Promises {
    private static final int LOW = Integer.MIN_VALUE;
    private static final int HIGH = Integer.MAX_VALUE;
    private static final Check CHECK = new Check();

    public static void main(String[] args) {
        newObject();
        stone();
        hour();
        house();
        touch();
        feed();
        end();
        text();
        fault();
        faultsOfOneToken();
        faultsOfDepth();
        by();
        of();
        names();
        sums();
        asks();
        stands();
        lay();
        out();
        lend();
        played();
        undo();
        undoOfHousesToldSince();
        least();
        leastOfSome();
        orders();
        sound();
        hush();
        heard();
        with();
        houseOf();
        row();
        winter();
        town();
        image();
        back();
        about();
        laterChanges();
        CHECK.endWith("promises");
    }

    private static void due(String call, long got, long want) {
        CHECK.due(call, got, want);
    }

    private static void due(String call, boolean got, boolean want) {
        CHECK.due(call, got, want);
    }

    /** Stones without bearers. */
    private static WalledIn withStones(int n) {
        WalledIn x = new WalledIn();
        for (int i = 0; i < n; i++) {
            due("stone " + i, x.stone(i + 1, i, 10 + i, 0, 0), i);
        }
        return x;
    }

    private static WalledIn withHouses(int... spare) {
        WalledIn x = new WalledIn();
        for (int i = 0; i < spare.length; i++) {
            due("house " + i, x.house(spare[i]), i);
        }
        return x;
    }

    private static void rule(WalledIn x, String text) {
        int number = Check.read(x, text);
        due("text() of " + text, number >= 0, true);
        due("by of " + text, x.by(number), true);
    }

    private static void dueFault(String text, int what, int place) {
        WalledIn x = new WalledIn();
        due("text() of " + text, Check.read(x, text), what == 0 ? 0 : -1);
        due("fault(0) of " + text, x.fault(0), what);
        due("fault(1) of " + text, x.fault(1), place);
    }

    private static String repeat(String part, int n) {
        return part.repeat(n);
    }

    private static void newObject() {
        WalledIn x = new WalledIn();
        for (int i = 0; i <= 8; i++) {
            due("new: about " + i, x.about(i), i == 5 ? -1 : 0);
        }
        due("NONE", WalledIn.NONE, -1);
        x.stone(1, 1, 1, 0, 0);
        x.lay(0);
        x.house(3);
        x.hour(7);
        x.sound(0, 1);
        due("new: back", x.back(), 0);
        for (int i = 0; i <= 8; i++) {
            due("new again: about " + i, x.about(i), i == 5 ? -1 : 0);
        }
    }

    private static void stone() {
        WalledIn x = new WalledIn();
        due("weight 0", x.stone(0, 0, 0, 0, 0), -1);
        due("weight 100", x.stone(100, 0, 0, 0, 0), -1);
        due("height -1", x.stone(1, -1, 0, 0, 0), -1);
        due("height 21", x.stone(1, 21, 0, 0, 0), -1);
        due("vein -1", x.stone(1, 0, -1, 0, 0), -1);
        due("vein 100", x.stone(1, 0, 100, 0, 0), -1);
        due("bearers of none", x.stone(1, 0, 0, 1, 0), -1);
        due("bearers below 0", x.stone(1, 0, 0, -1, 0), -1);
        due("bearers LOW", x.stone(1, 0, 0, LOW, 0), -1);
        due("need 1 of none", x.stone(1, 0, 0, 0, 1), -1);
        due("need -1", x.stone(1, 0, 0, 0, -1), -1);
        due("first", x.stone(99, 20, 99, 0, 0), 0);
        due("itself a bearer", x.stone(1, 0, 0, 2, 0), -1);
        due("second", x.stone(1, 0, 0, 1, 1), 1);
        due("need 3 of 2", x.stone(1, 0, 0, 3, 3), -1);
        due("need 2 of 2", x.stone(1, 0, 0, 3, 2), 2);
        for (int i = 3; i < 12; i++) {
            due("stone " + i, x.stone(1, 0, 0, (1 << i) - 1, i), i);
        }
        due("13th", x.stone(1, 0, 0, 0, 0), -1);
        due("stones", x.about(0), 12);
        due("bearers of 11", x.about(21), 2047);
        due("need of 11", x.about(41), 11);
    }

    private static void hour() {
        WalledIn x = new WalledIn();
        due("hour 23", x.hour(23), true);
        due("hour 24", x.hour(24), false);
        due("hour -1", x.hour(-1), false);
        due("hour LOW", x.hour(LOW), false);
        due("it stays", x.about(2), 23);
        due("hour 0", x.hour(0), true);
        due("it is 0", x.about(2), 0);
    }

    private static void house() {
        WalledIn x = new WalledIn();
        due("spare -1", x.house(-1), -1);
        due("spare 100", x.house(100), -1);
        for (int i = 0; i < 10; i++) {
            due("house " + i, x.house(i == 0 ? 99 : 0), i);
        }
        due("11th", x.house(1), -1);
        due("houses", x.about(3), 10);
        due("spare of 0", x.houseOf(0, 0), 99);
        due("owes of 0", x.houseOf(0, 1), 0);
    }

    private static void touch() {
        WalledIn x = withHouses(1, 1, 1);
        due("touch", x.touch(0, 2, true), true);
        due("again", x.touch(2, 0, true), true);
        due("of 0", x.houseOf(0, 2), 1);
        due("of 2", x.houseOf(2, 2), 1);
        due("same", x.touch(1, 1, true), false);
        due("same, not", x.touch(1, 1, false), false);
        due("untold", x.touch(0, 3, true), false);
        due("untold one", x.touch(3, 0, true), false);
        due("below", x.touch(-1, 0, true), false);
        due("LOW", x.touch(0, LOW, true), false);
        due("no more", x.touch(2, 0, false), true);
        due("of 0 then", x.houseOf(0, 2), 0);
        due("of 2 then", x.houseOf(2, 2), 0);
        due("not once more", x.touch(2, 0, false), true);
    }

    private static void feed() {
        WalledIn x = new WalledIn();
        due("highest first", x.feed(0x6c696674, 0x20313b0a, 0, -1, 0x80000000), 20);
        due("end 8", x.end(8), 8);
        due("lift 1;", x.text(), 0);
        due("twelve more come behind", x.feed(0x6c617920, 0x313b2020, 0x6c617920, 0x323b2020,
            0x6c617920), 20);
        due("behind the tape", x.feed(0x333b2020, 0x20202020, 0x20202020, 0x20202020, 0x20202020),
            40);
        due("three clauses", x.text(), 1);
        for (int i = 1; i <= 15; i++) {
            due("feed " + i, x.feed(0, 0, 0, 0, 0), i * 20);
        }
        due("feed beyond", x.feed(0, 0, 0, 0, 0), -1);
        due("none came", x.about(8), 300);
        due("end 281", x.end(281), 281);
        due("301 would be", x.feed(0, 0, 0, 0, 0), -1);
        due("still 281", x.about(8), 281);
        due("end 280", x.end(280), 280);
        due("300 is fine", x.feed(0, 0, 0, 0, 0), 300);
    }

    private static void end() {
        WalledIn x = new WalledIn();
        due("end 0 of none", x.end(0), 0);
        due("end 1 of none", x.end(1), -1);
        x.feed(0, 0, 0, 0, 0);
        due("end 21", x.end(21), -1);
        due("end -1", x.end(-1), -1);
        due("end LOW", x.end(LOW), -1);
        due("all stay", x.about(8), 20);
        due("end 20", x.end(20), 20);
        due("end 3", x.end(3), 3);
        due("end 4 then", x.end(4), -1);
        due("three", x.about(8), 3);
    }

    private static void text() {
        WalledIn x = new WalledIn();
        due("empty tape", x.text(), 0);
        due("blanks", Check.read(x, " \n \n"), 1);
        due("tape empty then", x.about(8), 0);
        due("with a fault", Check.read(x, "lift"), -1);
        due("tape empty after a fault", x.about(8), 0);
        due("third", Check.read(x, "lay 0;out 11;lend 0 to 9;may 1<2;fits 1<2;lift 0;"), 2);
        due("fourth", Check.read(x, "lay0;lend1to2;may1<2and3>=stone or not-1#(2);"), 3);
        due("fault(0) of the fourth", x.fault(0), 0);
        due("fifth", Check.read(x, "lift"), -1);
        due("the tape stays", x.about(8), 4);
        due("it was not read", x.fault(0), 0);
        due("texts", x.about(4), 4);
        WalledIn y = new WalledIn();
        String longest = "may" + repeat(" ", 290) + "1 < 2 ;";
        due("300 bytes", Check.read(y, longest), 0);
        due("24 clauses", Check.read(y, repeat("lay 1;", 24)), 1);
        due("24 clauses, all played but the first can't be", y.played(1), 0);
    }

    private static void fault() {
        WalledIn x = new WalledIn();
        due("ahead of any, 0", x.fault(0), -1);
        due("ahead of any, 1", x.fault(1), -1);
        due("ahead of any, 2", x.fault(2), -1);
        Check.read(x, "lay 1;");
        due("without, 0", x.fault(0), 0);
        due("without, 1", x.fault(1), -1);
        due("others", x.fault(2), -1);
        due("others below", x.fault(-1), -1);
        Check.read(x, "lay 12;");
        due("with, 0", x.fault(0), 2);
        due("with, 1", x.fault(1), 4);
        due("with, others", x.fault(2), -1);
        x.image();
        Check.read(x, " x");
        x.back();
        due("an image has no fault", x.fault(0), 1);
        due("an image has no place", x.fault(1), 1);
        dueFault("lay 1", 1, 5);
        dueFault("lay 1 \n ", 1, 8);
        dueFault("lay", 1, 3);
        dueFault("; ", 1, 0);
        dueFault("lay 1;;", 1, 6);
        dueFault("Lay 1;", 1, 0);
        dueFault("lays 1;", 1, 0);
        dueFault("la 1;", 1, 0);
        dueFault("stone 1;", 1, 0);
        dueFault("lay\t1;", 1, 3);
        dueFault("lift 1\r;", 1, 6);
        dueFault("lift \u00e9;", 1, 5);
        dueFault("lift 1! ;", 1, 6);
        dueFault("lift 1 2;", 1, 7);
        dueFault("lift ;", 1, 5);
        dueFault("lift );", 1, 5);
        dueFault("lift (1;", 1, 7);
        dueFault("lift 1);", 1, 6);
        dueFault("lift ();", 1, 6);
        dueFault("lift 1 + ;", 1, 9);
        dueFault("lift +1;", 1, 5);
        dueFault("lift 1 < 2;", 1, 7);
        dueFault("lift not 1;", 1, 5);
        dueFault("may 1;", 1, 5);
        dueFault("may (1 < 2);", 1, 7);
        dueFault("may 1 < 2 < 3;", 1, 10);
        dueFault("may 1 < = 2;", 1, 8);
        dueFault("may 1 = < 2;", 1, 8);
        dueFault("may 1 =< 2;", 1, 7);
        dueFault("may 1 < not 2;", 1, 8);
        dueFault("may 1 + not 2 < 3;", 1, 8);
        dueFault("may 1 < 2 and ;", 1, 14);
        dueFault("may 1 and 2 < 3;", 1, 6);
        dueFault("may (1 and 2) < 3;", 1, 7);
        dueFault("may or 1 < 2;", 1, 4);
        dueFault("lay -1;", 1, 4);
        dueFault("lay stone;", 1, 4);
        dueFault("out 1 to 2;", 1, 6);
        dueFault("lend 1 2;", 1, 7);
        dueFault("lend 1 to;", 1, 9);
        dueFault("lay 12;", 2, 4);
        dueFault("lay 11;", 0, -1);
        dueFault("lay 00011;", 0, -1);
        dueFault("out 12;", 2, 4);
        dueFault("out 11;", 0, -1);
        dueFault("lend 10 to 1;", 2, 5);
        dueFault("lend 9 to 10;", 2, 10);
        dueFault("lend 9 to 9;", 0, -1);
        dueFault("lift 9999;", 0, -1);
        dueFault("lift 09999;", 0, -1);
        dueFault("lift 10000;", 2, 5);
        dueFault("lift " + repeat("9", 290) + ";", 2, 5);
        dueFault("lift " + repeat("0", 290) + "7;", 0, -1);
        dueFault("lift 4294967296;", 2, 5);
        dueFault("lift 1; lift 2;", 4, 8);
        dueFault("may 1<2; may 1<2;", 4, 9);
        dueFault("fits 1<2; lay 0; fits 1<2;", 4, 17);
        dueFault("lift quarry;", 5, 5);
        dueFault("may quarry < 1;", 5, 4);
        dueFault("fits laid < 1;", 5, 5);
        dueFault("fits 1 < top;", 5, 9);
        dueFault("fits -hour < 1;", 5, 6);
        dueFault(repeat("lay 0;", 24) + "  out 0;", 6, 146);
    }

    private static void faultsOfOneToken() {
        dueFault("lift 1 99999;", 1, 7);
        dueFault("lay 1 99;", 1, 6);
        dueFault("lift 1 quarry;", 1, 7);
        dueFault("lay quarry;", 1, 4);
        dueFault("lift lift 1;", 1, 5);
        dueFault("lift 1 lift 2;", 1, 7);
        dueFault(repeat("lay 0;", 24) + "x", 1, 144);
        dueFault(repeat("lay 0;", 24) + "lay 99;", 6, 144);
        dueFault("lift 1;" + repeat("lay 0;", 23) + "lift 2;", 4, 145);
        dueFault("lift 1;" + repeat("lay 0;", 23) + "may 1<2;", 6, 145);
        dueFault("lift quarry + 99999;", 5, 5);
        dueFault("lift 99999 + quarry;", 2, 5);
        dueFault("may 1 < 2 and not;", 1, 17);
    }

    private static void faultsOfDepth() {
        dueFault("lift " + repeat("(", 8) + "1" + repeat(")", 8) + ";", 0, -1);
        dueFault("lift " + repeat("(", 9) + "1" + repeat(")", 9) + ";", 3, 13);
        dueFault("lift " + repeat("-", 8) + "1;", 0, -1);
        dueFault("lift " + repeat("-", 9) + "1;", 3, 13);
        dueFault("lift 1 -" + repeat("-", 8) + "1;", 0, -1);
        dueFault("lift 1 -" + repeat("-", 9) + "1;", 3, 16);
        dueFault("may " + repeat("not ", 8) + "1 < 2;", 0, -1);
        dueFault("may " + repeat("not ", 9) + "1 < 2;", 3, 36);
        dueFault("may not " + repeat("(-", 4) + "1))))<2;", 3, 15);
        dueFault("may not 1 < " + repeat("(", 8) + "1;", 3, 19);
        dueFault("may not 1 < 2 and " + repeat("(", 8) + "1" + repeat(")", 8) + " < 2;", 0, -1);
        dueFault("may not 1 < 2 or 1 < " + repeat("-", 8) + "1;", 0, -1);
        dueFault("lift " + repeat("(1)+", 12) + repeat("-1+", 12) + "-(1);", 0, -1);
        dueFault("lift -1*" + repeat("-", 8) + "1;", 0, -1);
        dueFault("lift -(1)*" + repeat("(", 8) + "1" + repeat(")", 8) + ";", 0, -1);
        dueFault("lift -(1*" + repeat("(", 7) + "1;", 3, 15);
    }

    private static void by() {
        WalledIn x = withStones(2);
        due("none", x.by(-1), true);
        due("untold", x.by(0), false);
        due("below", x.by(-2), false);
        due("LOW", x.by(LOW), false);
        due("text", Check.read(x, "lift 7;"), 0);
        due("told alone rules not", x.of(1, 2), 2);
        due("by 0", x.by(0), true);
        due("rules", x.of(1, 2), 7);
        due("about", x.about(5), 0);
        due("by 1", x.by(1), false);
        due("it stays", x.about(5), 0);
        due("none again", x.by(-1), true);
        due("about none", x.about(5), -1);
        due("by weight and height", x.of(1, 2), 2);
    }

    private static void of() {
        WalledIn x = new WalledIn();
        x.stone(5, 0, 0, 0, 0);
        x.stone(99, 20, 0, 0, 0);
        x.stone(3, 4, 0, 3, 2);
        due("lift of 1", x.of(1, 2), 1980);
        due("lift of 2, not borne", x.of(2, 2), 12);
        due("2 borne", x.of(2, 4), 0);
        due("2 may", x.of(2, 1), 0);
        x.lay(0);
        x.lay(1);
        due("2 borne then", x.of(2, 4), 1);
        due("2 may then", x.of(2, 1), 1);
        due("2 laid", x.of(2, 0), 0);
        x.lay(2);
        due("2 laid then", x.of(2, 0), 1);
        due("2 may no more", x.of(2, 1), 0);
        due("2 borne still", x.of(2, 4), 1);
        due("all quarries", x.of(2, 3), 63);
        due("untold", x.of(3, 0), -1);
        due("below", x.of(-1, 0), -1);
        due("LOW", x.of(LOW, 0), -1);
        due("HIGH", x.of(HIGH, 0), -1);
        due("what 5", x.of(0, 5), -1);
        due("what -1", x.of(0, -1), -1);
        rule(x, "lift laid * 100 + top; may laid > 5;");
        due("without itself", x.of(1, 2), 204);
        due("without itself, top", x.of(0, 2), 220);
        due("borne has no law", x.of(0, 4), 1);
    }

    private static void names() {
        WalledIn x = withStones(4);
        x.hour(22);
        rule(x, "lift stone*1000+weight*100+height*10+vein;");
        due("of the stone", x.of(3, 2), 3443);
        rule(x, "lift laid*1000 + (top+1)*100 + hour;");
        due("of no set", x.of(0, 2), 22);
        x.lay(2);
        due("of one", x.of(0, 2), 1323);
        x.lay(1);
        due("hour by 24", x.of(0, 2), 2300);
        rule(x, "fits quarry = stone or quarry = 5;");
        due("quarries of 0", x.of(0, 3), 33);
        due("quarries of 3", x.of(3, 3), 40);
        due("lift without", x.of(3, 2), 12);
        due("may without", x.of(3, 1), 1);
        rule(x, "may 1 = 2;");
        due("fits without", x.of(3, 3), 63);
        due("may not", x.of(3, 1), 0);
    }

    private static void dueLift(String sum, int want) {
        WalledIn x = new WalledIn();
        x.stone(7, 3, 50, 0, 0);
        rule(x, "lift " + sum + ";");
        due("lift " + sum, x.of(0, 2), want);
        due("lay by lift " + sum, x.lay(0), want);
    }

    private static void sums() {
        dueLift("1+2*3", 7);
        dueLift("(1+2)*3", 9);
        dueLift("10-3-2", 5);
        dueLift("100/10/5", 2);
        dueLift("100/(10/5)", 50);
        dueLift("7/2*2", 6);
        dueLift("2*7/2", 7);
        dueLift("10-7/2", 7);
        dueLift("10+-7/2", 7);
        dueLift("10+7/-2", 7);
        dueLift("10-(-7/2)", 13);
        dueLift("5/0", 0);
        dueLift("5/0+3", 3);
        dueLift("-5", 0);
        dueLift("--5", 5);
        dueLift("-weight*-2", 14);
        dueLift("9999+1", 9999);
        dueLift("9999*9999", 9999);
        dueLift("9999*9999/1000", 1000);
        dueLift("-9999*9999/1000+1500", 500);
        dueLift("9999*9999-9999*9999", 0);
        dueLift("9999*100+9999-9999*100", 100);
        dueLift("9999*100+100+5-9999*100", 100);
        dueLift("(9999*101-9999*100-9999-9999*102+9999)/-1000", 990);
        dueLift("9999*9999*9999*9999*9999/1000", 1000);
        dueLift("0-9999*9999-9999*9999+9999*100+101", 1);
    }

    private static void dueMay(String either, boolean want) {
        WalledIn x = new WalledIn();
        x.stone(7, 3, 50, 0, 0);
        rule(x, "may " + either + ";");
        due("may " + either, x.of(0, 1), want ? 1 : 0);
    }

    private static void asks() {
        dueMay("1 < 2", true);
        dueMay("2 < 2", false);
        dueMay("2 <= 2", true);
        dueMay("3 <= 2", false);
        dueMay("2 > 2", false);
        dueMay("3 > 2", true);
        dueMay("2 >= 2", true);
        dueMay("1 >= 2", false);
        dueMay("2 = 2", true);
        dueMay("2 # 2", false);
        dueMay("2 # 3", true);
        dueMay("1 = 1 or 1 = 1 and 1 = 2", true);
        dueMay("1 = 2 and 1 = 1 or 1 = 1", true);
        dueMay("1 = 2 and 1 = 2 or 1 = 2", false);
        dueMay("not 1 = 2 and 1 = 2", false);
        dueMay("not 1 = 1 or 1 = 1", true);
        dueMay("not not 1 = 1", true);
        dueMay("not weight + 1 < 8", true);
        dueMay("-weight < 0", true);
        dueMay("5/0 = 0", true);
        dueMay("top = -1", true);
    }

    private static void stands() {
        WalledIn x = new WalledIn();
        due("none of none", x.stands(0), true);
        due("1 of none", x.stands(1), false);
        x.stone(1, 0, 0, 0, 0);
        x.stone(1, 0, 0, 0, 0);
        x.stone(1, 1, 0, 3, 1);
        x.stone(1, 2, 0, 7, 2);
        due("2 upon 1", x.stands(6), true);
        due("2 alone", x.stands(4), false);
        due("3 upon 0 and 1", x.stands(11), true);
        due("3 upon 1", x.stands(10), false);
        due("3 upon 2 upon 1", x.stands(14), true);
        due("untold", x.stands(16), false);
        due("below", x.stands(-1), false);
        due("LOW", x.stands(LOW), false);
        due("HIGH", x.stands(HIGH), false);
        rule(x, "may 1 = 2;");
        due("no law here", x.stands(15), true);
    }

    private static void lay() {
        WalledIn x = new WalledIn();
        x.stone(2, 5, 0, 0, 0);
        x.stone(3, 6, 0, 1, 1);
        due("not borne", x.lay(1), -1);
        due("no step", x.about(6), 0);
        due("lay", x.lay(0), 10);
        due("twice", x.lay(0), -1);
        due("a step", x.about(6), 1);
        due("untold", x.lay(2), -1);
        due("below", x.lay(-1), -1);
        due("32", x.lay(32), -1);
        due("HIGH", x.lay(HIGH), -1);
        rule(x, "may laid = 2; lift 5;");
        due("not let", x.lay(1), -1);
        rule(x, "may laid = 1; lift laid + top;");
        due("let", x.lay(1), 6);
        due("laid", x.about(1), 3);
    }

    private static void out() {
        WalledIn x = new WalledIn();
        x.stone(1, 0, 0, 0, 0);
        x.stone(1, 0, 0, 0, 0);
        x.stone(1, 1, 0, 3, 1);
        due("not laid", x.out(0), -1);
        x.lay(0);
        x.lay(2);
        due("bears", x.out(0), -1);
        x.lay(1);
        due("another bears", x.out(0), 2);
        due("laid", x.about(1), 6);
        rule(x, "may 1 = 2;");
        due("no law here", x.out(2), 1);
        due("the last", x.out(1), 0);
        due("untold", x.out(3), -1);
        due("below", x.out(-1), -1);
        due("LOW", x.out(LOW), -1);
        due("steps", x.about(6), 6);
    }

    private static void lend() {
        WalledIn x = withHouses(2, 99, 0);
        due("not touching", x.lend(0, 1), -1);
        x.touch(0, 1, true);
        x.touch(2, 1, true);
        due("lends", x.lend(0, 1), 1);
        due("beyond 99", x.houseOf(1, 0), 100);
        due("the last one", x.lend(0, 1), 0);
        due("none left", x.lend(0, 1), -1);
        due("lent", x.houseOf(0, 1), -2);
        due("got", x.houseOf(1, 1), 2);
        due("nothing to lend", x.lend(2, 1), -1);
        due("itself", x.lend(1, 1), -1);
        due("untold", x.lend(1, 3), -1);
        due("untold one", x.lend(3, 1), -1);
        due("below", x.lend(-1, 1), -1);
        due("HIGH", x.lend(1, HIGH), -1);
        due("32", x.lend(32, 33), -1);
        due("steps", x.about(6), 2);
        x.touch(0, 1, false);
        due("touches no more", x.lend(1, 0), -1);
    }

    private static void played() {
        WalledIn x = withStones(3);
        due("untold", x.played(0), -2);
        due("below", x.played(-1), -2);
        due("LOW", x.played(LOW), -2);
        x.house(1);
        x.house(0);
        x.touch(0, 1, true);
        due("text", Check.read(x, "lay 0; lift 3; lend 0 to 1; out 0; lay 2; may 1=2;"), 0);
        due("all", x.played(0), -1);
        due("laid", x.about(1), 4);
        due("lent", x.houseOf(1, 0), 1);
        due("each is a step", x.about(6), 4);
        due("ends at the lend", x.played(0), 2);
        due("what was done stays", x.about(1), 5);
        due("one step more", x.about(6), 5);
        due("text of none", Check.read(x, "fits 1 = 1;"), 1);
        due("none to play", x.played(1), -1);
        due("untold stone", Check.read(x, "lift 1; out 0; lay 11;"), 2);
        due("ends at 2", x.played(2), 2);
        due("out was done", x.about(1), 4);
        x.by(0);
        due("THE TEXT rules, not the one played", Check.read(x, "may 1 = 1; lay 0;"), 3);
        due("not let", x.played(3), 1);
        due("2", x.played(4), -2);
    }

    private static void undo() {
        WalledIn x = withStones(2);
        due("none", x.undo(), -1);
        x.lay(0);
        x.lay(1);
        x.out(0);
        x.lay(0);
        due("undo lay", x.undo(), 3);
        due("laid", x.about(1), 2);
        due("undo out", x.undo(), 2);
        due("laid then", x.about(1), 3);
        due("undo", x.undo(), 1);
        due("undo the first", x.undo(), 0);
        due("none left", x.undo(), -1);
        due("none laid", x.about(1), 0);
        for (int i = 0; i < 35; i++) {
            if (i % 2 == 0) {
                due("lay " + i, x.lay(0), 0);
            } else {
                due("out " + i, x.out(0), 0);
            }
        }
        due("30 at most", x.about(6), 30);
        for (int i = 29; i >= 0; i--) {
            due("undo to " + i, x.undo(), i);
        }
        due("beyond", x.undo(), -1);
        due("as 5 steps left it", x.about(1), 1);
    }

    private static void undoOfHousesToldSince() {
        WalledIn x = withHouses(5, 0);
        x.touch(0, 1, true);
        x.lend(0, 1);
        due("told since", x.house(7), 2);
        x.touch(2, 0, true);
        x.lend(2, 0);
        due("undo", x.undo(), 1);
        due("undo the first", x.undo(), 0);
        due("spare of the one told since", x.houseOf(2, 0), 7);
        due("owes of it", x.houseOf(2, 1), 0);
        due("it touches still", x.houseOf(2, 2), 1);
        due("spare of 0", x.houseOf(0, 0), 5);
        due("owes of 1", x.houseOf(1, 1), 0);
    }

    private static void dueOrder(WalledIn x, int lift, int... order) {
        due("least, how many", x.least(-1), order.length);
        due("least, lift", x.least(-2), lift);
        for (int i = 0; i < order.length; i++) {
            due("least " + i, x.least(i), order[i]);
        }
        due("least beyond", x.least(order.length), -3);
    }

    private static void least() {
        WalledIn x = new WalledIn();
        dueOrder(x, 0);
        x.stone(1, 1, 0, 0, 0);
        x.stone(2, 2, 0, 0, 0);
        x.stone(3, 3, 0, 1, 1);
        dueOrder(x, 14, 0, 1, 2);
        rule(x, "lift (1 + laid) * weight;");
        dueOrder(x, 13, 0, 2, 1);
        due("below", x.least(-3), -3);
        due("LOW", x.least(LOW), -3);
        due("HIGH", x.least(HIGH), -3);
        x.lay(0);
        dueOrder(x, 13, 0, 2, 1);
        rule(x, "lift stone * laid * (2 - stone);");
        dueOrder(x, 0, 1, 0, 2);
        WalledIn y = withStones(12);
        dueOrder(y, 572, 0, 1, 2, 3, 4, 5, 6, 7, 8, 9, 10, 11);
        rule(y, "may laid = 11 - stone; lift 9999;");
        dueOrder(y, 119988, 11, 10, 9, 8, 7, 6, 5, 4, 3, 2, 1, 0);
        WalledIn z = withStones(3);
        rule(z, "lift top;");
        dueOrder(z, 1, 0, 1, 2);
    }

    private static void leastOfSome() {
        WalledIn x = new WalledIn();
        x.stone(1, 1, 0, 0, 0);
        x.stone(2, 1, 0, 0, 0);
        x.stone(3, 1, 0, 0, 0);
        rule(x, "may laid < 2; lift weight * (laid + 1);");
        dueOrder(x, 4, 1, 0);
        due("no order of all", x.orders(), 0);
        rule(x, "may laid = 0 and stone = 2 or laid = 1 and stone # 0;");
        dueOrder(x, 5, 2, 1);
        rule(x, "may 1 = 2;");
        dueOrder(x, 0);
    }

    private static void orders() {
        WalledIn x = new WalledIn();
        due("of none", x.orders(), 1);
        long want = 1;
        for (int i = 0; i < 12; i++) {
            x.stone(1, 0, 0, 0, 0);
            want *= i + 1;
            due("of " + (i + 1), x.orders(), want);
        }
        x.hour(23);
        rule(x, "may hour # 5 or stone = 11;");
        due("one at the seventh", x.orders(), 39916800);
        x.hour(5);
        due("one at the first", x.orders(), 39916800);
        x.hour(6);
        due("at no place", x.orders(), 479001600);
        x.by(-1);
        x.lay(3);
        due("laid ones don't matter", x.orders(), 479001600);
    }

    private static void sound() {
        WalledIn x = new WalledIn();
        due("low -1", x.sound(-1, 5), -1);
        due("high 21", x.sound(0, 21), -1);
        due("low above high", x.sound(5, 4), -1);
        due("LOW", x.sound(LOW, HIGH), -1);
        for (int i = 1; i <= 8; i++) {
            due("sound " + i, x.sound(i == 1 ? 0 : 20, 20), i);
        }
        due("ninth", x.sound(0, 0), -1);
        due("about", x.about(7), 8);
    }

    private static void hush() {
        WalledIn x = new WalledIn();
        due("none", x.hush(), 0);
        x.sound(0, 1);
        x.sound(0, 1);
        due("two", x.hush(), 2);
        due("none then", x.about(7), 0);
        due("first again", x.sound(3, 3), 1);
    }

    private static void dueHeard(WalledIn x, long many, long each, long some) {
        due("heard 0", x.heard(0), many);
        due("heard 1", x.heard(1), each);
        due("heard 2", x.heard(2), some);
    }

    private static void heard() {
        WalledIn x = new WalledIn();
        dueHeard(x, 1, 0, 0);
        x.sound(0, 20);
        dueHeard(x, 0, 0, 0);
        x.hush();
        x.stone(1, 0, 0, 0, 0);
        x.stone(1, 0, 0, 0, 0);
        x.stone(1, 4, 0, 3, 1);
        x.stone(1, 9, 0, 4, 1);
        due("others", x.heard(3), -1);
        due("below", x.heard(-1), -1);
        dueHeard(x, 1, 0, 0);
        x.sound(0, 3);
        dueHeard(x, 2, 0, 3);
        x.sound(4, 4);
        dueHeard(x, 2, 4, 7);
        x.sound(0, 20);
        dueHeard(x, 4, 4, 15);
        x.sound(9, 9);
        dueHeard(x, 2, 15, 15);
        x.sound(0, 20);
        dueHeard(x, 0, 0, 0);
        x.hush();
        x.sound(4, 9);
        dueHeard(x, 0, 0, 0);
        WalledIn y = withStones(12);
        for (int i = 0; i < 8; i++) {
            y.sound(0, 20);
        }
        dueHeard(y, 19958400, 0, 4095);
        rule(y, "may laid = stone;");
        dueHeard(y, 1, 255, 255);
    }

    private static void with() {
        WalledIn x = new WalledIn();
        x.stone(1, 0, 0, 0, 0);
        x.stone(1, 0, 0, 0, 0);
        x.stone(1, 1, 0, 3, 1);
        x.stone(1, 2, 0, 4, 1);
        x.stone(1, 2, 0, 5, 1);
        due("not laid", x.with(0), -1);
        x.lay(0);
        x.lay(2);
        x.lay(3);
        x.lay(4);
        due("all but 4 can't, nor can it", x.with(0), 29);
        due("2 with 3", x.with(2), 12);
        due("3 alone", x.with(3), 8);
        x.lay(1);
        due("0 alone, as 1 bears", x.with(0), 1);
        due("not laid of told ones", x.with(5), -1);
        due("below", x.with(-1), -1);
        due("LOW", x.with(LOW), -1);
        WalledIn y = new WalledIn();
        for (int i = 0; i < 3; i++) {
            y.stone(1, 0, 0, 0, 0);
        }
        y.stone(1, 0, 0, 7, 2);
        due("lay", y.lay(0) + y.lay(1) + y.lay(3), 0);
        due("with what it bears", y.with(1), 10);
        y.lay(2);
        due("one less bears still", y.with(1), 2);
        WalledIn z = new WalledIn();
        for (int i = 0; i < 12; i++) {
            z.stone(1, 0, 0, i == 0 ? 0 : 1 << i - 1, i == 0 ? 0 : 1);
            z.lay(i);
        }
        due("a pile of twelve", z.with(0), 4095);
        due("its top", z.with(11), 2048);
    }

    private static void houseOf() {
        WalledIn x = withHouses(3, 0, 1);
        x.touch(0, 1, true);
        x.touch(0, 2, true);
        x.lend(0, 1);
        due("spare", x.houseOf(0, 0), 2);
        due("owes", x.houseOf(0, 1), -1);
        due("touches", x.houseOf(0, 2), 2);
        due("what 3", x.houseOf(0, 3), -1000);
        due("what -1", x.houseOf(0, -1), -1000);
        due("untold", x.houseOf(3, 0), -1000);
        due("below", x.houseOf(-1, 0), -1000);
        due("LOW", x.houseOf(LOW, 0), -1000);
    }

    private static void row() {
        WalledIn x = withHouses(1, 1, 1, 0, 1, 0);
        int[][] pairs = {{0, 4}, {0, 2}, {4, 5}, {2, 5}, {1, 0}, {0, 3}, {3, 5}};
        for (int[] p : pairs) {
            x.touch(p[0], p[1], true);
        }
        due("how many", x.row(0, 5, -1), 3);
        due("first", x.row(0, 5, 0), 0);
        due("not by 3, which has none; 2 is lower than 4", x.row(0, 5, 1), 2);
        due("last", x.row(0, 5, 2), 5);
        due("beyond", x.row(0, 5, 3), -1);
        due("below", x.row(0, 5, -2), -1);
        due("from 5, which has none", x.row(5, 0, -1), -1);
        due("itself", x.row(5, 5, -1), 1);
        due("itself, first", x.row(5, 5, 0), 5);
        due("itself, second", x.row(5, 5, 1), -1);
        due("four", x.row(1, 5, -1), 4);
        due("third of four", x.row(1, 5, 2), 2);
        due("next", x.row(0, 3, -1), 2);
        due("untold", x.row(0, 6, -1), -1);
        due("untold from", x.row(6, 0, -1), -1);
        due("LOW", x.row(LOW, 0, -1), -1);
        due("HIGH", x.row(0, HIGH, 0), -1);
        x.touch(0, 1, false);
        due("no row", x.row(1, 5, -1), -1);
        due("no row, 0", x.row(1, 5, 0), -1);
        WalledIn y = withHouses(1, 1, 1, 1, 1, 1, 1, 1, 1, 0);
        for (int i = 0; i < 9; i++) {
            y.touch(i, i + 1, true);
        }
        due("ten", y.row(0, 9, -1), 10);
        due("tenth", y.row(0, 9, 9), 9);
        due("sixth", y.row(0, 9, 5), 5);
        due("nine back", y.row(8, 0, -1), 9);
    }

    private static void winter() {
        WalledIn x = new WalledIn();
        due("no houses", x.winter(), 0);
        x = withHouses(9, 9, 9, 9, 9, 9);
        for (int i = 0; i < 6; i++) {
            for (int j = 0; j < i; j++) {
                x.touch(i, j, true);
            }
        }
        due("no debts", x.winter(), 0);
        x.lend(0, 1);
        due("one", x.winter(), 1);
        x.lend(1, 2);
        due("passed on", x.winter(), 1);
        x.lend(3, 4);
        due("two pairs", x.winter(), 2);
        x.lend(3, 5);
        due("a pair and three", x.winter(), 3);
        x.lend(3, 2);
        due("a pair and three others", x.winter(), 3);
        WalledIn y = withHouses(9, 9, 9, 9, 9, 9);
        int[][] lendings = {{0, 3}, {0, 3}, {0, 4}, {1, 4}, {2, 5}, {2, 5}};
        for (int[] l : lendings) {
            y.touch(l[0], l[1], true);
            y.lend(l[0], l[1]);
        }
        // -3 -1 -2 +2 +2 +2: the one pair that evens out, then four.
        due("a pair and four", y.winter(), 4);
        WalledIn z = withHouses(9, 9, 9, 9);
        z.touch(0, 2, true);
        z.touch(0, 3, true);
        z.touch(1, 3, true);
        z.lend(0, 2);
        z.lend(0, 3);
        z.lend(1, 3);
        z.lend(1, 3);
        due("any other one: 0 has 2 to get, 1 has 2", z.winter(), 3);
        z.lend(3, 1);
        due("two pairs", z.winter(), 2);
        z.undo();
        z.undo();
        z.undo();
        due("0 alone", z.winter(), 2);
    }

    private static void town() {
        WalledIn x = new WalledIn();
        due("no houses", x.town(5, 5), -1);
        due("no step", x.about(6), 0);
        x = withHouses(3, 3, 3);
        due("seed -1", x.town(-1, 1), -1);
        due("seed 10000", x.town(10000, 1), -1);
        due("n 0", x.town(0, 0), -1);
        due("n 100", x.town(0, 100), -1);
        due("LOW", x.town(LOW, LOW), -1);
        due("no step of these", x.about(6), 0);
        due("none touches", x.town(0, 99), 0);
        due("a step yet", x.about(6), 1);
        x.touch(0, 1, true);
        x.touch(1, 2, true);
        // X: 4, 761, 17414, 22507, 11519, 8697. House 4 mod 3 = 1 touches 0 and 2, 761 mod 2 = 1:
        // 2. House 17414 mod 3 = 2, 22507 mod 1 = 0: 1. House 11519 mod 3 = 2, 8697 mod 1: 1.
        due("three lendings", x.town(0, 3), 3);
        due("spare of 0", x.houseOf(0, 0), 3);
        due("spare of 1", x.houseOf(1, 0), 4);
        due("spare of 2", x.houseOf(2, 0), 2);
        due("owes of 1", x.houseOf(1, 1), 1);
        due("one step", x.about(6), 2);
        due("undo", x.undo(), 1);
        due("spare of 2 again", x.houseOf(2, 0), 3);
        due("owes of 1 again", x.houseOf(1, 1), 0);
        // The first draw is of X = 89995: 89995 mod 3 = 1, then 9901 mod 2 = 1: 2.
        due("the last seed", x.town(9999, 1), 1);
        due("spare of 2 then", x.houseOf(2, 0), 4);
        // X: 13, 2390, 11353. House 13 mod 3 = 1 touches none; so the next is 2390 mod 3 = 2,
        // not 11353 mod 3 = 1.
        WalledIn y = withHouses(1, 1, 1);
        y.touch(0, 2, true);
        due("no second draw", y.town(1, 2), 1);
        due("2 lent", y.houseOf(2, 1), -1);
        WalledIn z = withHouses(0, 1, 1);
        z.touch(1, 2, true);
        // X: 13, 2390, 11353. House 13 mod 3 = 1, to 2; house 11353 mod 3 = 1 has none left.
        due("one of two", z.town(1, 2), 1);
        due("spare of 1, none", z.houseOf(1, 0), 0);
        due("99 lendings", z.town(7, 99) >= 0, true);
    }

    private static WalledIn full() {
        WalledIn x = withStones(3);
        x.house(4);
        x.house(0);
        x.touch(0, 1, true);
        x.hour(9);
        rule(x, "lift 8;");
        x.sound(1, 2);
        x.lay(1);
        x.lend(0, 1);
        return x;
    }

    private static void dueFull(WalledIn x) {
        int[] want = {3, 2, 9, 2, 1, 0, 2, 1};
        for (int i = 0; i < want.length; i++) {
            due("full: about " + i, x.about(i), want[i]);
        }
        due("full: spare", x.houseOf(0, 0), 3);
        due("full: owes", x.houseOf(1, 1), 1);
        due("full: touches", x.houseOf(0, 2), 1);
        due("full: lift", x.of(0, 2), 8);
        due("full: heard", x.heard(2), 6);
        due("full: orders", x.orders(), 6);
    }

    private static void spoil(WalledIn x) {
        x.stone(9, 9, 9, 1, 1);
        x.lay(0);
        x.lay(2);
        x.out(1);
        x.house(1);
        x.touch(0, 1, false);
        x.touch(0, 2, true);
        x.town(5, 9);
        x.hour(3);
        rule(x, "lift 2; may 1 = 2;");
        x.hush();
    }

    private static void image() {
        WalledIn x = full();
        due("image", x.image(), 1);
        dueFull(x);
        spoil(x);
        due("back", x.back(), 1);
        dueFull(x);
        spoil(x);
        due("another image", x.image(), 2);
        due("back to that", x.back(), 2);
        due("its hour", x.about(2), 3);
        due("its law", x.of(0, 2), 2);
    }

    private static void back() {
        WalledIn x = full();
        x.image();
        spoil(x);
        Check.feed(x, "lay 0;");
        due("back", x.back(), 1);
        due("the tape is as it was", x.about(8), 6);
        due("undo what the image has", x.undo(), 1);
        due("spare", x.houseOf(0, 0), 4);
        due("undo", x.undo(), 0);
        due("no more", x.undo(), -1);
        spoil(x);
        due("it stays", x.back(), 1);
        dueFull(x);
        due("text behind the image", Check.read(x, "lift 5;"), 1);
        x.back();
        due("another in its place", Check.read(x, "lift 6;"), 1);
        x.by(1);
        due("it rules", x.of(0, 2), 6);
        WalledIn y = new WalledIn();
        spoil(y);
        due("to nothing", y.back(), 0);
        due("no stones", y.about(0), 0);
        due("one order", y.orders(), 1);
        WalledIn z = withStones(1);
        for (int i = 0; i < 33; i++) {
            due("steps " + i, i % 2 == 0 ? z.lay(0) : z.out(0), 0);
        }
        z.image();
        for (int i = 0; i < 10; i++) {
            z.undo();
        }
        due("of ten undone", z.about(6), 20);
        due("back", z.back(), 1);
        for (int i = 29; i >= 0; i--) {
            due("undo to " + i, z.undo(), i);
        }
        due("as three left it", z.about(1), 1);
    }

    private static void about() {
        WalledIn x = full();
        x.stone(1, 0, 0, 5, 2);
        due("bearers of 0", x.about(10), 0);
        due("bearers of 3", x.about(13), 5);
        due("need of 3", x.about(33), 2);
        due("untold bearers", x.about(14), -2);
        due("untold need", x.about(34), -2);
        due("9", x.about(9), -2);
        due("29", x.about(29), -2);
        due("-1", x.about(-1), -2);
        due("LOW", x.about(LOW), -2);
        due("HIGH", x.about(HIGH), -2);
        Check.feed(x, "abc");
        due("tape", x.about(8), 3);
    }

    /** What was found once must be found anew when what it hangs on is another. */
    private static void laterChanges() {
        WalledIn x = withStones(2);
        due("orders", x.orders(), 2);
        due("least", x.least(-2), 2);
        x.image();
        x.stone(1, 1, 0, 0, 0);
        due("a stone more: orders", x.orders(), 6);
        due("a stone more: least", x.least(-2), 3);
        rule(x, "may hour = laid; lift hour;");
        due("by a law: least", x.least(-2), 3);
        x.hour(1);
        due("another hour: orders", x.orders(), 0);
        due("another hour: least", x.least(-1), 0);
        x.by(-1);
        due("no law: orders", x.orders(), 6);
        x.back();
        due("back: orders", x.orders(), 2);
        due("back: least", x.least(-2), 2);
        x.sound(0, 0);
        due("heard", x.heard(0), 1);
        due("heard changes no orders", x.orders(), 2);
        due("nor the least", x.least(1), 1);
        x.sound(0, 1);
        due("heard of two", x.heard(2), 3);
        due("heard one", x.heard(0), 1);
    }
}
