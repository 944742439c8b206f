/** Terms II, third part: the six FAULTS and their places. */
final class EdgesOfFaults {
    private EdgesOfFaults() {
    }

    static void all() {
        theFirst();
        place();
        theLeast();
        cantStand();
        tooGreat();
        tooDeepAlike();
        tooDeepMixed();
        openNoMore();
        twice();
        nameOfAnother();
        tooMany();
    }

    private static void theFirst() {
        Edges.says("FAULTS, the first as TOKENS are come to,");
        Edges.fault("lay 12;lay x;", 2, 4);
        Edges.fault("lay x;lay 12;", 1, 4);
        Edges.fault("lay 12!", 2, 4);
        Edges.fault("!lay 12;", 1, 0);
        Edges.fault("lift quarry+10000;", 5, 5);
        Edges.fault("lift 10000+quarry;", 2, 5);
        Edges.fault("lift 1;lift quarry;", 4, 7);
        Edges.fault("lift quarry;lift 1;", 5, 5);
        Edges.fault("lend 10 to 10;", 2, 5);
        Edges.fault("lift " + "(".repeat(9) + "10000", 3, 13);
        Edges.fault("lift " + "(".repeat(8) + "10000", 2, 13);
    }

    private static void place() {
        Edges.says("at the TOKEN's first byte (of the end at the length),");
        Edges.fault("lays 1;", 1, 0);
        Edges.fault("  \n lays 1;", 1, 4);
        Edges.fault("lay  \n 12;", 2, 7);
        Edges.fault("lift 1 <= 2;", 1, 7);
        Edges.fault("lay", 1, 3);
        Edges.fault("lay ", 1, 4);
        Edges.fault("lay 1", 1, 5);
        Edges.fault("lay 1 \n ", 1, 8);
        Edges.fault("lay 1" + " ".repeat(294), 1, 299);
        Edges.fault("lay 1" + " ".repeat(295), 1, 300);
        Edges.fault("lift(1111", 1, 9);
        WalledIn x = new WalledIn();
        x.feed(0x6c617920, 0x313b2121, 0, 0, 0);
        x.end(5);
        Edges.due("what is cut off is not read", x.text(), -1);
        Edges.due("fault(1)", x.fault(1), 5);
    }

    private static void theLeast() {
        Edges.says("of one the least:");
        Edges.fault("lift 1 10000;", 1, 7);
        Edges.fault("lay 1 12;", 1, 6);
        Edges.fault("10000", 1, 0);
        Edges.fault("lift " + "(".repeat(8) + "1(", 1, 14);
        Edges.fault("may " + "not ".repeat(8) + "1<not 1;", 1, 38);
        Edges.fault("lift " + "not ".repeat(9), 1, 5);
        Edges.fault("lift 1 quarry;", 1, 7);
        Edges.fault("quarry", 1, 0);
        Edges.fault("lay quarry;", 1, 4);
        Edges.fault("lift 1 lift", 1, 7);
        Edges.fault("lift lift", 1, 5);
        Edges.fault("lay 0;".repeat(24) + "x", 1, 144);
        Edges.fault("lay 0;".repeat(24) + "12", 1, 144);
        Edges.fault("lift 1;" + "lay 0;".repeat(23) + "lift", 4, 145);
        Edges.fault("may 1<2;" + "lay 0;".repeat(23) + "may", 4, 146);
        Edges.fault("fits 1<2;" + "lay 0;".repeat(23) + "fits", 4, 147);
        Edges.fault("lift 1;" + "lay 0;".repeat(23) + "may", 6, 145);
    }

    private static void cantStand() {
        Edges.says("1 it can't stand there, or is none.");
        Edges.fault("stone", 1, 0);
        Edges.fault("to 1;", 1, 0);
        Edges.fault("lift and;", 1, 5);
        Edges.fault("lift 1 or 2;", 1, 7);
        Edges.fault("may 1<2 to 3;", 1, 8);
        Edges.fault("lift !;", 1, 5);
        Edges.fault("lift 1!;", 1, 6);
        Edges.fault("lift 1&2;", 1, 6);
        Edges.fault("lift 1:2;", 1, 6);
        Edges.fault("lift 1,2;", 1, 6);
        Edges.fault("lift x;", 1, 5);
        Edges.fault("lift " + (char) 0, 1, 5);
        Edges.fault("lift " + (char) 127, 1, 5);
        Edges.fault("lift " + (char) 128, 1, 5);
        Edges.fault("lift " + (char) 255, 1, 5);
        Edges.fault((char) 160 + "lift 1;", 1, 0);
        Edges.fault("lift 1;" + (char) 9, 1, 7);
        Edges.fault("lift 1;" + (char) 13, 1, 7);
    }

    private static void tooGreat() {
        Edges.says("2 a NUMBER above 9999; of lay and out above 11, of lend above 9.");
        Edges.right("lift 9999;");
        Edges.fault("lift 10000;", 2, 5);
        Edges.right("may 9999<9999;");
        Edges.fault("may 10000<9999;", 2, 4);
        Edges.fault("may 9999<10000;", 2, 9);
        Edges.right("fits -(9999)<9999*9999;");
        Edges.fault("fits -(10000)<1;", 2, 7);
        Edges.right("lay 0;lay 11;");
        Edges.fault("lay 12;", 2, 4);
        Edges.fault("lay 9999;", 2, 4);
        Edges.fault("lay 10000;", 2, 4);
        Edges.right("out 0;out 11;");
        Edges.fault("out 12;", 2, 4);
        Edges.fault("out 4294967296;", 2, 4);
        Edges.right("lend 0 to 9;lend 9 to 0;");
        Edges.fault("lend 10 to 9;", 2, 5);
        Edges.fault("lend 11 to 9;", 2, 5);
        Edges.fault("lend 9 to 10;", 2, 10);
        Edges.fault("lend 9 to 11;", 2, 10);
        Edges.right("lay 0011;out 011;lend 09 to 00009;");
    }

    private static void tooDeepAlike() {
        Edges.says("3 the 9th of ( not and - (of one ONE)");
        Edges.right("lift " + "(".repeat(8) + "1" + ")".repeat(8) + ";");
        Edges.fault("lift " + "(".repeat(9) + "1" + ")".repeat(9) + ";", 3, 13);
        Edges.right("lift " + "-".repeat(8) + "1;");
        Edges.fault("lift " + "-".repeat(9) + "1;", 3, 13);
        Edges.right("lift 1-" + "-".repeat(8) + "1;");
        Edges.fault("lift 1-" + "-".repeat(9) + "1;", 3, 15);
        Edges.right("may " + "not ".repeat(8) + "1<2;");
        Edges.fault("may " + "not ".repeat(9) + "1<2;", 3, 36);
        Edges.right("fits " + "not ".repeat(8) + "1<2;");
        Edges.fault("fits " + "not ".repeat(9) + "1<2;", 3, 37);
        Edges.lift("-".repeat(8) + "5", 5);
        Edges.lift("10+" + "-".repeat(7) + "5", 5);
        Edges.may("not ".repeat(8) + "1=1", true);
        Edges.may("not ".repeat(7) + "1=1", false);
        Edges.lift("1+(".repeat(8) + "1" + ")".repeat(8), 9);
        Edges.lift("1+2*(".repeat(8) + "1" + ")".repeat(8), 511);
    }

    private static void tooDeepMixed() {
        Edges.says("that are open around one another (at it).");
        Edges.right("may not " + "(-".repeat(3) + "(1))))<2;");
        Edges.fault("may not " + "(-".repeat(4) + "1", 3, 15);
        Edges.right("may not " + "-(".repeat(3) + "-1)))<2;");
        Edges.fault("may not " + "-(".repeat(3) + "-(1", 3, 15);
        Edges.right("may not 1<" + "(".repeat(7) + "1" + ")".repeat(7) + ";");
        Edges.fault("may not 1<" + "(".repeat(8) + "1", 3, 17);
        Edges.right("may not 1+1<2*" + "-".repeat(7) + "1;");
        Edges.fault("may not 1+1<2*" + "-".repeat(8) + "1;", 3, 21);
        Edges.fault("lift " + "(".repeat(8) + "-1", 3, 13);
        Edges.fault("lift " + "-".repeat(8) + "(1)", 3, 13);
        Edges.fault("lift -(1*" + "(".repeat(7), 3, 15);
        Edges.right("lift -(1*" + "(".repeat(6) + "1" + ")".repeat(7) + ";");
        Edges.right("may " + "not ".repeat(7) + "-1<2;");
        Edges.fault("may " + "not ".repeat(8) + "-1<2;", 3, 36);
    }

    private static void openNoMore() {
        Edges.says("that are open around one another (at it).");
        Edges.right("lift " + "(1)+".repeat(30) + "(1);");
        Edges.right("lift " + "-1+".repeat(30) + "-1;");
        Edges.right("may " + "not 1<2 and ".repeat(20) + "not 1<2;");
        Edges.right("may not 1<2 and " + "(".repeat(8) + "1" + ")".repeat(8) + "<2;");
        Edges.right("may not 1<2 or 1<" + "-".repeat(8) + "1;");
        Edges.right("may not 1<2 and " + "not ".repeat(8) + "1<2;");
        Edges.right("lift -1*" + "-".repeat(8) + "1;");
        Edges.right("lift -1+" + "(".repeat(8) + "1" + ")".repeat(8) + ";");
        Edges.right("lift -(1)*" + "(".repeat(8) + "1" + ")".repeat(8) + ";");
        Edges.fault("lift -(1+" + "(".repeat(6) + "(1", 3, 15);
        Edges.right("may -1<" + "-".repeat(8) + "1;");
        Edges.right("lift ((1)-(1)*(" + "(".repeat(6) + "1" + ")".repeat(8) + ";");
        Edges.right("lift (" + "-".repeat(7) + "1)*" + "-".repeat(8) + "1;");
        Edges.right("lift -1;may not " + "-".repeat(7) + "1<2;fits not " + "(".repeat(7) + "1"
            + ")".repeat(7) + "<2;");
    }

    private static void twice() {
        Edges.says("4 lift, may, fits for the second time (at it).");
        Edges.right("lift 1;may 1<2;fits 1<2;");
        Edges.fault("lift 1; lift 1;", 4, 8);
        Edges.fault("may 1<2; may 1<2;", 4, 9);
        Edges.fault("fits 1<2; fits 1<2;", 4, 10);
        Edges.fault("lift 1;lay 1;may 1<2;fits 1<2; lift", 4, 31);
        Edges.fault("may 1<2;lift 1;fits 1<2;may", 4, 24);
        Edges.fault("fits 1<2;lift 1;may 1<2;fits", 4, 24);
        WalledIn x = new WalledIn();
        Edges.due("of another text", Check.read(x, "lift 1;"), 0);
        Edges.due("it is the first time", Check.read(x, "lift 1;"), 1);
        Edges.due("twice", Check.read(x, "may 1<2;may 1<2;"), -1);
        Edges.due("behind a fault it is the first", Check.read(x, "may 1<2;"), 2);
    }

    private static void nameOfAnother() {
        Edges.says("5 a NAME that isn't of that CLAUSE (at it).");
        for (String name : new String[] {"stone", "weight", "height", "vein"}) {
            Edges.right("lift " + name + ";may " + name + "<1;fits " + name + "<1;");
        }
        for (String name : new String[] {"laid", "top", "hour"}) {
            Edges.right("lift " + name + ";may " + name + "<1;");
            Edges.fault("fits " + name + "<1;", 5, 5);
            Edges.fault("fits 1<" + name + ";", 5, 7);
            Edges.fault("fits not -(" + name + ")<1;", 5, 11);
        }
        Edges.right("fits quarry<1;");
        Edges.fault("lift quarry;", 5, 5);
        Edges.fault("lift 1*(1+quarry);", 5, 10);
        Edges.fault("may quarry<1;", 5, 4);
        Edges.fault("may 1<1 or not 1<quarry;", 5, 17);
        Edges.fault("fits 1<2;may 1<quarry;", 5, 15);
        Edges.fault("may 1<2;fits 1<laid;", 5, 15);
    }

    private static void tooMany() {
        Edges.says("6 the 25th CLAUSE (at its first TOKEN).");
        Edges.right("lay 0;".repeat(24));
        Edges.right("lay 0;".repeat(24) + " \n ");
        Edges.fault("lay 0;".repeat(25), 6, 144);
        Edges.fault("lay 0;".repeat(24) + "  out", 6, 146);
        Edges.fault("lay 0;".repeat(24) + "lend 10", 6, 144);
        Edges.fault("lay 0;".repeat(24) + "lift quarry;", 6, 144);
        Edges.fault("lay 0;".repeat(24) + "may", 6, 144);
        Edges.fault("lay 0;".repeat(24) + "fits", 6, 144);
        Edges.fault("lay 0;".repeat(26), 6, 144);
    }
}
