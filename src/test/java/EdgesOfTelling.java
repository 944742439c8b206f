/** Promises 1 to 16: what is told and done, and what a call answers that can't be. */
final class EdgesOfTelling {
    private static final int LOW = Edges.LOW;
    private static final int HIGH = Edges.HIGH;

    private EdgesOfTelling() {
    }

    /** A call, with its answer (a boolean counts 1 or 0). */
    interface Call {
        long on(WalledIn x);
    }

    static void all() {
        newObject();
        stone();
        stoneForOthers();
        stoneBeyondTwelve();
        hour();
        house();
        touch();
        feed();
        feedBeyond();
        end();
        text();
        textWithAFault();
        textBehindAFault();
        longestTexts();
        textBeyondFour();
        fault();
        faultForOthers();
        by();
        of();
        ofForOthers();
        stands();
        lay();
        out();
        lend();
        played();
    }

    /** The call answers that it can't be, and changes nothing. */
    static void refused(String what, long want, Call call) {
        WalledIn x = Towers.some();
        Edges.due(what, call.on(x), want);
        Edges.same(what, Whole.withImage(x), Whole.withImage(Towers.some()));
    }

    /** The same where all is full. */
    static void refusedAtTheBrim(String what, long want, Call call) {
        WalledIn x = Towers.brim();
        Edges.due(what, call.on(x), want);
        Edges.same(what, Whole.withImage(x), Whole.withImage(Towers.brim()));
    }

    private static int bit(boolean is) {
        return is ? 1 : 0;
    }

    private static void newObject() {
        Edges.in("Promise 1: A new object");
        Edges.says("No STONES, no HOUSES; THE IMAGE is this.");
        WalledIn x = new WalledIn();
        for (int i = 0; i <= 8; i++) {
            Edges.due("about(" + i + ")", x.about(i), i == 5 ? -1 : 0);
        }
        Edges.due("about(10)", x.about(10), -2);
        Edges.due("about(30)", x.about(30), -2);
        Edges.due("of(0, 0)", x.of(0, 0), -1);
        Edges.due("houseOf(0, 0)", x.houseOf(0, 0), -1000);
        Edges.due("orders()", x.orders(), 1);
        Edges.due("winter()", x.winter(), 0);
        WalledIn y = new WalledIn();
        Towers.spoil(y);
        Edges.due("back()", y.back(), 0);
        Check.read(y, "");
        y.back();
        WalledIn fresh = new WalledIn();
        Check.read(fresh, "");
        fresh.back();
        Edges.same("back()", Whole.of(y), Whole.of(fresh));
    }

    private static void stone() {
        Edges.in("Promise 2: stone");
        Edges.says("A STONE: its number.");
        WalledIn x = new WalledIn();
        Edges.due("the least of all", x.stone(1, 0, 0, 0, 0), 0);
        Edges.due("the most of all", x.stone(99, 20, 99, 1, 1), 1);
        for (int i = 2; i < 12; i++) {
            Edges.due("stone " + i, x.stone(99, 20, 99, (1 << i) - 1, i), i);
        }
        Edges.due("bearers of 11", x.about(21), 2047);
        Edges.due("need of 11", x.about(41), 11);
    }

    private static void stoneForOthers() {
        Edges.says("NONE for others,");
        for (int wrong : new int[] {LOW, -1, HIGH}) {
            refused("weight " + wrong, -1, x -> x.stone(wrong, 1, 1, 0, 0));
            refused("height " + wrong, -1, x -> x.stone(1, wrong, 1, 0, 0));
            refused("vein " + wrong, -1, x -> x.stone(1, 1, wrong, 0, 0));
            refused("bearers " + wrong, -1, x -> x.stone(1, 1, 1, wrong, 0));
            refused("need " + wrong, -1, x -> x.stone(1, 1, 1, 1, wrong));
        }
        refused("weight 0", -1, x -> x.stone(0, 1, 1, 0, 0));
        refused("weight 100", -1, x -> x.stone(100, 1, 1, 0, 0));
        refused("height 21", -1, x -> x.stone(1, 21, 1, 0, 0));
        refused("vein 100", -1, x -> x.stone(1, 1, 100, 0, 0));
        refused("bearers 16, which is itself", -1, x -> x.stone(1, 1, 1, 16, 0));
        refused("need 1 of none", -1, x -> x.stone(1, 1, 1, 0, 1));
        refused("need 5 of four", -1, x -> x.stone(1, 1, 1, 15, 5));
    }

    private static void stoneBeyondTwelve() {
        Edges.says("or if there are 12.");
        refusedAtTheBrim("the 13th", -1, x -> x.stone(1, 0, 0, 0, 0));
        refusedAtTheBrim("the 13th, upon all", -1, x -> x.stone(1, 0, 0, 4095, 12));
        WalledIn x = Edges.stones(11);
        Edges.due("the 12th", x.stone(1, 0, 0, 0, 0), 11);
        Edges.due("the 13th", x.stone(1, 0, 0, 0, 0), -1);
    }

    private static void hour() {
        Edges.in("Promise 3: hour");
        Edges.says("HOUR: true.");
        WalledIn x = new WalledIn();
        for (int h = 23; h >= 0; h--) {
            Edges.due("hour(" + h + ")", x.hour(h), true);
            Edges.due("about(2)", x.about(2), h);
        }
        Edges.says("False for others.");
        for (int wrong : new int[] {LOW, -24, -1, 24, 25, 47, HIGH}) {
            refused("hour(" + wrong + ")", 0, y -> bit(y.hour(wrong)));
        }
    }

    private static void house() {
        Edges.in("Promise 4: house");
        Edges.says("A HOUSE: its number.");
        WalledIn x = new WalledIn();
        for (int i = 0; i < 10; i++) {
            Edges.due("house " + i, x.house(i * 11), i);
            Edges.due("its spare", x.houseOf(i, 0), i * 11);
            Edges.due("it touches none", x.houseOf(i, 2), 0);
        }
        Edges.says("NONE for others,");
        for (int wrong : new int[] {LOW, -1, 100, HIGH}) {
            refused("house(" + wrong + ")", -1, y -> y.house(wrong));
        }
        Edges.says("or if there are 10.");
        refusedAtTheBrim("the 11th", -1, y -> y.house(1));
        WalledIn y = Edges.houses(1, 1, 1, 1, 1, 1, 1, 1, 1);
        Edges.due("the 10th", y.house(99), 9);
        Edges.due("the 11th", y.house(99), -1);
    }

    private static void touch() {
        Edges.in("Promise 5: touch");
        Edges.says("Two HOUSES are TOUCHING, or not: true.");
        WalledIn x = Edges.houses(1, 1, 1, 1, 1, 1, 1, 1, 1, 1);
        Edges.due("not, from the first on", x.touch(0, 9, false), true);
        Edges.due("touching", x.touch(0, 9, true), true);
        Edges.due("once more", x.touch(0, 9, true), true);
        Edges.due("0 touches", x.houseOf(0, 2), 1);
        Edges.due("9 touches", x.houseOf(9, 2), 1);
        Edges.due("not", x.touch(9, 0, false), true);
        Edges.due("0 touches", x.houseOf(0, 2), 0);
        Edges.due("9 touches", x.houseOf(9, 2), 0);
        Edges.says("False for others (one and the same).");
        for (boolean is : new boolean[] {true, false}) {
            for (int wrong : new int[] {LOW, -1, 3, 10, 32, HIGH}) {
                refused("touch(0, " + wrong + ")", 0, y -> bit(y.touch(0, wrong, is)));
                refused("touch(" + wrong + ", 0)", 0, y -> bit(y.touch(wrong, 0, is)));
            }
            for (int one = 0; one < 3; one++) {
                int same = one;
                refused("touch(" + one + ", the same)", 0, y -> bit(y.touch(same, same, is)));
            }
            refusedAtTheBrim("touch(0, 10)", 0, y -> bit(y.touch(0, 10, is)));
            refusedAtTheBrim("touch(10, 9)", 0, y -> bit(y.touch(10, 9, is)));
        }
    }

    private static void feed() {
        Edges.in("Promise 6: feed");
        Edges.says("Twenty bytes come behind the tape, the highest of a first: "
            + "how many it has.");
        WalledIn x = new WalledIn();
        // lift 9876; and nine blanks, then may 1=2;
        Edges.due("twenty", x.feed(0x6c696674, 0x20393837, 0x363b2020, 0x20202020, 0x2020206d), 20);
        Edges.due("forty", x.feed(0x61792031, 0x3d323b20, 0x20202020, 0x20202020, 0x20202020), 40);
        Edges.due("text()", x.text(), 0);
        x.stone(1, 1, 1, 0, 0);
        x.by(0);
        Edges.due("lift", x.of(0, 2), 9876);
        Edges.due("may", x.of(0, 1), 0);
        for (int place = 0; place < 20; place++) {
            int[] words = {0x20202020, 0x20202020, 0x20202020, 0x20202020, 0x20202020};
            words[place / 4] = words[place / 4] & ~(255 << 24 - 8 * (place % 4));
            WalledIn y = new WalledIn();
            y.feed(words[0], words[1], words[2], words[3], words[4]);
            Edges.due("a byte of 0 at " + place, y.text(), -1);
            Edges.due("its place", y.fault(1), place);
        }
        WalledIn z = new WalledIn();
        Edges.due("all bits", z.feed(-1, -1, -1, -1, -1), 20);
        Edges.due("behind three bytes", z.end(3) + z.feed(LOW, HIGH, 0, -1, 1), 3 + 23);
    }

    private static void feedBeyond() {
        Edges.says("NONE, and none come, if there would be more than 300.");
        WalledIn x = new WalledIn();
        for (int i = 1; i <= 15; i++) {
            Edges.due("feed " + i, x.feed(0, 0, 0, 0, 0), 20 * i);
        }
        for (int length = 300; length > 280; length--) {
            x.end(length);
            Edges.due("behind " + length, x.feed(0, 0, 0, 0, 0), -1);
            Edges.due("none come", x.about(8), length);
        }
        x.end(280);
        Edges.due("behind 280", x.feed(0, 0, 0, 0, 0), 300);
        x.end(279);
        Edges.due("behind 279", x.feed(0, 0, 0, 0, 0), 299);
        refusedAtTheBrim("feed", -1, y -> y.feed(0, 0, 0, 0, 0));
    }

    private static void end() {
        Edges.in("Promise 7: end");
        Edges.says("The tape has its first n bytes alone: n.");
        WalledIn x = new WalledIn();
        Edges.due("end(0) of none", x.end(0), 0);
        x.feed(0x6c617920, 0x303b6c61, 0x79203021, 0, 0);
        Edges.due("end(20) of 20", x.end(20), 20);
        Edges.due("end(12)", x.end(12), 12);
        Edges.due("end(11)", x.end(11), 11);
        Edges.due("end(6)", x.end(6), 6);
        Edges.due("about(8)", x.about(8), 6);
        Edges.due("lay 0;", x.text(), 0);
        Edges.says("NONE, and nothing is done, if it has not so many, or n is below 0.");
        Edges.due("end(1) of none", x.end(1), -1);
        for (int wrong : new int[] {LOW, -1, 8, 20, 300, HIGH}) {
            refused("end(" + wrong + ") of 7", -1, y -> y.end(wrong));
        }
        WalledIn y = Towers.some();
        Edges.due("end(7) of 7", y.end(7), 7);
        Edges.due("end(0) of 7", y.end(0), 0);
        Edges.due("end(7) of 0", y.end(7), -1);
        refusedAtTheBrim("end(301) of 300", -1, z -> z.end(301));
        Edges.due("end(300) of 300", Towers.brim().end(300), 300);
    }

    private static void text() {
        Edges.in("Promise 8: text");
        Edges.says("The tape (empty then) is a TEXT: its number.");
        WalledIn x = new WalledIn();
        Edges.due("of an empty tape", x.text(), 0);
        Edges.due("about(8)", x.about(8), 0);
        Check.feed(x, "lay 0;");
        Edges.due("of six bytes", x.text(), 1);
        Edges.due("about(8)", x.about(8), 0);
        Edges.due("of an empty tape once more", x.text(), 2);
        for (int i = 0; i < 15; i++) {
            x.feed(0x20202020, 0x20202020, 0x20202020, 0x20202020, 0x20202020);
        }
        Edges.due("of 300 bytes", x.text(), 3);
        Edges.due("about(8)", x.about(8), 0);
        Edges.due("about(4)", x.about(4), 4);
    }

    private static void textWithAFault() {
        Edges.says("NONE: it has a FAULT;");
        WalledIn x = new WalledIn();
        Check.feed(x, "lay 0");
        Edges.due("text()", x.text(), -1);
        Edges.due("no text", x.about(4), 0);
        Edges.due("the tape is empty then", x.about(8), 0);
        Edges.due("the next one is the first", Check.read(x, "lay 0;"), 0);
        Edges.due("a fault in the last byte of 300", Check.read(x, " ".repeat(299) + "!"), -1);
        Edges.due("no text more", x.about(4), 1);
    }

    /** What stands open where a fault is leaves nothing to the next text. */
    private static void textBehindAFault() {
        Edges.says("NONE: it has a FAULT;");
        String[] faulty = {"lift -!", "lift " + "(".repeat(8) + "!", "lift " + "-".repeat(9),
            "lift 2*!", "lift 1+2*(3", "may not not 1<!", "may 1<2 and", "may 1<2 or not",
            "lay 0;".repeat(24) + "lay", "lift 1;may 1<2;fits 1<2;!", "lend 1 to"};
        for (String text : faulty) {
            WalledIn x = Edges.stones(1);
            Edges.due("text() of " + text, Check.read(x, text), -1);
            Edges.rule(x, "lift " + "(".repeat(8) + "5" + ")".repeat(8) + ";may "
                + "not ".repeat(8) + "1<2;fits quarry=-(-1);lay 0;out 0;");
            Edges.due("behind " + text + ": lift", x.of(0, 2), 5);
            Edges.due("behind " + text + ": may", x.of(0, 1), 1);
            Edges.due("behind " + text + ": fits", x.of(0, 3), 2);
            Edges.due("behind " + text + ": played", x.played(0), -1);
            Edges.due("behind " + text + ": steps", x.about(6), 2);
        }
    }

    private static void longestTexts() {
        Edges.says("The tape (empty then) is a TEXT: its number.");
        WalledIn x = Edges.stones(1);
        for (int i = 0; i < 4; i++) {
            Check.read(x, "lift 1" + "+1".repeat(140) + "+!");
            Check.read(x, "lift 1" + "+1".repeat(140) + "+" + (1000 * i) + ";");
        }
        for (int i = 0; i < 4; i++) {
            Edges.due("by(" + i + ")", x.by(i), true);
            Edges.due("lift by text " + i, x.of(0, 2), 141 + 1000 * i);
        }
        WalledIn y = Edges.stones(1);
        Edges.rule(y, "lift 1" + "+1".repeat(40) + ";may 2" + "-1".repeat(40) + "<0;fits 5"
            + "+1*0".repeat(20) + "=quarry;");
        Edges.due("of three laws: lift", y.of(0, 2), 41);
        Edges.due("of three laws: may", y.of(0, 1), 1);
        Edges.due("of three laws: fits", y.of(0, 3), 32);
    }

    private static void textBeyondFour() {
        Edges.says("or (the tape stays) there are 4.");
        WalledIn x = new WalledIn();
        for (int i = 0; i < 4; i++) {
            Edges.due("text " + i, Check.read(x, "lay 0;"), i);
        }
        Check.feed(x, "lay 0;");
        Edges.due("the fifth", x.text(), -1);
        Edges.due("the tape stays", x.about(8), 6);
        Edges.due("about(4)", x.about(4), 4);
        Edges.due("the fifth again", x.text(), -1);
        x.back();
        Edges.due("there are none then: it is read", x.text(), 0);
        Edges.due("the tape is empty then", x.about(8), 0);
        refusedAtTheBrim("the fifth", -1, y -> y.text());
    }

    private static void fault() {
        Edges.in("Promise 9: fault");
        Edges.says("Of the latest text that was read: 0 its FAULT (0 without), "
            + "1 its place (NONE without).");
        WalledIn x = new WalledIn();
        Check.read(x, "lift quarry;");
        Edges.due("fault(0)", x.fault(0), 5);
        Edges.due("fault(1)", x.fault(1), 5);
        Check.read(x, "!");
        Edges.due("a later one, at 0: fault(0)", x.fault(0), 1);
        Edges.due("a later one, at 0: fault(1)", x.fault(1), 0);
        Check.read(x, "lay 1;");
        Edges.due("without: fault(0)", x.fault(0), 0);
        Edges.due("without: fault(1)", x.fault(1), -1);
        Check.feed(x, "lay 12;");
        Edges.due("fed, but not read: fault(0)", x.fault(0), 0);
        x.text();
        Edges.due("read: fault(0)", x.fault(0), 2);
        Edges.due("read: fault(1)", x.fault(1), 4);
        for (int i = 1; i < 4; i++) {
            Check.read(x, "");
        }
        Check.read(x, "lay 12;");
        Edges.due("the fifth was not read: fault(0)", x.fault(0), 0);
        Edges.due("the fifth was not read: fault(1)", x.fault(1), -1);
    }

    private static void faultForOthers() {
        Edges.says("NONE for others, and ahead of any.");
        WalledIn x = new WalledIn();
        for (int what = -1; what <= 2; what++) {
            Edges.due("ahead of any: fault(" + what + ")", x.fault(what), -1);
        }
        Check.feed(x, "lay");
        Edges.due("fed, not read: fault(0)", x.fault(0), -1);
        x.text();
        for (int wrong : new int[] {LOW, -1, 2, HIGH}) {
            Edges.due("fault(" + wrong + ")", x.fault(wrong), -1);
        }
        Edges.due("fault(0)", x.fault(0), 1);
        Edges.due("fault(1)", x.fault(1), 3);
    }

    private static void by() {
        Edges.in("Promise 10: by");
        Edges.says("THE TEXT (NONE: none): true.");
        WalledIn x = new WalledIn();
        Edges.due("none of none", x.by(-1), true);
        for (int i = 0; i < 4; i++) {
            Check.read(x, "");
            Edges.due("by(" + i + ")", x.by(i), true);
            Edges.due("about(5)", x.about(5), i);
        }
        Edges.due("by(0)", x.by(0), true);
        Edges.due("about(5)", x.about(5), 0);
        Edges.due("by(-1)", x.by(-1), true);
        Edges.due("about(5)", x.about(5), -1);
        Edges.says("False for others.");
        Edges.due("by(0) of none", new WalledIn().by(0), false);
        for (int wrong : new int[] {LOW, -2, 2, 3, 4, HIGH}) {
            refused("by(" + wrong + ") of two", 0, y -> bit(y.by(wrong)));
        }
        refusedAtTheBrim("by(4) of four", 0, y -> bit(y.by(4)));
    }

    private static void of() {
        Edges.in("Promise 11: of");
        WalledIn x = Edges.stones(11);
        x.stone(5, 4, 3, 3, 2);
        Check.read(x, "lift laid*100+top+1;may laid<3;fits quarry=5;");
        Edges.says("Of a STONE: 0 whether it is LAID (1, 0),");
        Edges.due("of(11, 0)", x.of(11, 0), 0);
        Edges.due("of(0, 0)", x.of(0, 0), 0);
        x.lay(0);
        Edges.due("of(0, 0) then", x.of(0, 0), 1);
        Edges.says("1 whether it MAY be LAID (of one that is: 0),");
        Edges.due("of(0, 1), which is laid", x.of(0, 1), 0);
        Edges.due("of(1, 1)", x.of(1, 1), 1);
        Edges.due("of(11, 1), not borne", x.of(11, 1), 0);
        x.lay(1);
        Edges.due("of(11, 1), borne", x.of(11, 1), 1);
        Edges.says("2 its LIFT upon LAID (without it),");
        Edges.due("of(11, 2) without a text", x.of(11, 2), 20);
        x.by(0);
        Edges.due("of(11, 2)", x.of(11, 2), 202);
        Edges.due("of(1, 2), without it", x.of(1, 2), 101);
        Edges.due("of(0, 2), without it", x.of(0, 2), 102);
        x.lay(11);
        Edges.due("of(11, 2), without it", x.of(11, 2), 202);
        Edges.due("may no more", x.of(5, 1), 0);
        Edges.says("3 QUARRIES (bits),");
        Edges.due("of(11, 3)", x.of(11, 3), 32);
        x.by(-1);
        Edges.due("of(11, 3) without a text", x.of(11, 3), 63);
        Edges.says("4 whether it is BORNE by LAID (without it).");
        Edges.due("of(11, 4), which is laid", x.of(11, 4), 1);
        x.undo();
        Edges.due("of(11, 4)", x.of(11, 4), 1);
        x.undo();
        Edges.due("of(11, 4) by one of two", x.of(11, 4), 0);
        Edges.due("of(5, 4) by any", x.of(5, 4), 1);
    }

    private static void ofForOthers() {
        Edges.says("NONE for others.");
        for (int wrong : new int[] {LOW, -1, 5, HIGH}) {
            refused("of(3, " + wrong + ")", -1, x -> x.of(3, wrong));
        }
        for (int what = 0; what < 5; what++) {
            int each = what;
            for (int wrong : new int[] {LOW, -1, 4, 12, 32, HIGH}) {
                refused("of(" + wrong + ", " + what + ")", -1, x -> x.of(wrong, each));
            }
            refusedAtTheBrim("of(12, " + what + ")", -1, x -> x.of(12, each));
            Edges.due("of(11, " + what + ")", Towers.brim().of(11, what) >= 0, true);
        }
    }

    private static void stands() {
        Edges.in("Promise 12: stands");
        Edges.says("Whether a set STANDS.");
        WalledIn x = new WalledIn();
        Edges.due("none of none", x.stands(0), true);
        for (int i = 0; i < 12; i++) {
            x.stone(1, 0, 0, (1 << i) - 1, i);
        }
        Edges.due("none", x.stands(0), true);
        Edges.due("all", x.stands(4095), true);
        Edges.due("all but the first", x.stands(4094), false);
        Edges.due("all but the last", x.stands(2047), true);
        Edges.due("the last alone", x.stands(2048), false);
        Edges.due("the first alone", x.stands(1), true);
        Edges.says("False for others.");
        for (int wrong : new int[] {4096, 4097, 8191, LOW, LOW + 1, -1, -4096, HIGH}) {
            Edges.due("stands(" + wrong + ")", x.stands(wrong), false);
        }
        Edges.due("stands(1) of none", new WalledIn().stands(1), false);
        WalledIn y = Edges.stones(3);
        Edges.due("stands(7) of three", y.stands(7), true);
        Edges.due("stands(8) of three", y.stands(8), false);
        Edges.due("stands(9) of three", y.stands(9), false);
    }

    private static void lay() {
        Edges.in("Promise 13: lay");
        Edges.says("A STONE is LAID: its LIFT.");
        WalledIn x = new WalledIn();
        x.stone(99, 20, 0, 0, 0);
        x.stone(1, 0, 0, 1, 1);
        Edges.due("lay(0)", x.lay(0), 1980);
        Edges.due("lay(1)", x.lay(1), 0);
        Edges.due("about(1)", x.about(1), 3);
        Edges.due("about(6)", x.about(6), 2);
        Edges.due("lay by lift 9999+1", Edges.ruled("lift 9999+1;").lay(0), 9999);
        Edges.due("lay by lift 0-1", Edges.ruled("lift 0-1;").lay(0), 0);
        Edges.says("NONE, if it can't be.");
        refused("lay(0), which is laid", -1, y -> y.lay(0));
        refused("lay(2), which may not be", -1, y -> y.lay(2));
        for (int wrong : new int[] {LOW, -1, 4, 12, 31, 32, HIGH}) {
            refused("lay(" + wrong + ")", -1, y -> y.lay(wrong));
        }
        refusedAtTheBrim("lay(12)", -1, y -> y.lay(12));
        WalledIn z = new WalledIn();
        z.stone(1, 0, 0, 0, 0);
        z.stone(1, 0, 0, 1, 1);
        Edges.due("lay(1), not borne", z.lay(1), -1);
        Edges.due("about(1)", z.about(1), 0);
        Edges.due("about(6)", z.about(6), 0);
    }

    private static void out() {
        Edges.in("Promise 14: out");
        Edges.says("A STONE is taken OUT: how many are LAID.");
        WalledIn x = Edges.stones(12);
        for (int i = 0; i < 12; i++) {
            x.lay(i);
        }
        for (int i = 11; i >= 0; i--) {
            Edges.due("out(" + i + ")", x.out(i), i);
        }
        Edges.due("about(1)", x.about(1), 0);
        Edges.due("about(6)", x.about(6), 24);
        Edges.says("NONE, if it can't be.");
        refused("out(0), upon which 3 is", -1, y -> y.out(0));
        refused("out(1), which is not laid", -1, y -> y.out(1));
        for (int wrong : new int[] {LOW, -1, 4, 12, 32, HIGH}) {
            refused("out(" + wrong + ")", -1, y -> y.out(wrong));
        }
        refusedAtTheBrim("out(12)", -1, y -> y.out(12));
        Edges.due("out(3), upon which none is", Towers.some().out(3), 1);
    }

    private static void lend() {
        Edges.in("Promise 15: lend");
        Edges.says("LENDS: the SPARE that is left.");
        WalledIn x = Edges.houses(99, 0);
        x.touch(0, 1, true);
        Edges.due("of 99", x.lend(0, 1), 98);
        Edges.due("of 1", x.lend(1, 0), 0);
        Edges.due("of 99 again", x.lend(0, 1), 98);
        Edges.says("NONE, if it can't be.");
        refused("lend(0, 2), which it touches not", -1, y -> y.lend(0, 2));
        refused("lend(0, 0)", -1, y -> y.lend(0, 0));
        for (int wrong : new int[] {LOW, -1, 3, 10, 32, 33, HIGH}) {
            refused("lend(0, " + wrong + ")", -1, y -> y.lend(0, wrong));
            refused("lend(" + wrong + ", 1)", -1, y -> y.lend(wrong, 1));
        }
        refusedAtTheBrim("lend(10, 9)", -1, y -> y.lend(10, 9));
        refusedAtTheBrim("lend(9, 10)", -1, y -> y.lend(9, 10));
        WalledIn z = Edges.houses(1, 0);
        z.touch(0, 1, true);
        Edges.due("lend(1, 0) of none", z.lend(1, 0), -1);
        Edges.due("lend(0, 1) of one", z.lend(0, 1), 0);
        Edges.due("lend(0, 1) of none", z.lend(0, 1), -1);
    }

    private static void played() {
        Edges.in("Promise 16: played");
        Edges.says("PLAYED by a TEXT: NONE: all is done;");
        WalledIn x = Edges.stones(2);
        for (int i = 0; i < 3; i++) {
            Check.read(x, "");
        }
        Check.read(x, "lay 0;lay 1;");
        Edges.due("played(0), of no clauses", x.played(0), -1);
        Edges.due("played(3)", x.played(3), -1);
        Edges.due("about(1)", x.about(1), 3);
        Edges.says("else the number of the CLAUSE that can't be.");
        Edges.due("played(3) again", x.played(3), 0);
        x.undo();
        x.out(0);
        x.lay(1);
        Edges.due("played(3): the second can't be", x.played(3), 1);
        Edges.says("-2 for others.");
        Edges.due("played(0) of none", new WalledIn().played(0), -2);
        for (int wrong : new int[] {LOW, -2, -1, 2, 3, 4, HIGH}) {
            refused("played(" + wrong + ")", -2, y -> y.played(wrong));
        }
        refusedAtTheBrim("played(4)", -2, y -> y.played(4));
    }
}
