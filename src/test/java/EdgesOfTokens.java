/** Terms II, first part: TEXTS, their TOKENS, and which may stand where. */
final class EdgesOfTokens {
    private static final String[] TOKENS = {"stone", "weight", "height", "vein", "laid", "top",
        "hour", "quarry", "lift", "may", "fits", "lay", "out", "lend", "to", "or", "and", "not",
        "<", "<=", ">", ">=", "=", "#", "+", "-", "*", "/", "(", ")", ";", "7", "x", "!"};
    private static final String OF_ALL = " stone weight height vein ";
    private static final String OF_SETS = " laid top hour ";
    private static final String ONE = OF_ALL + OF_SETS + " 7 ( - ";
    private static final String JOINS = " + - * / ";
    private static final String ASKS = " < <= > >= = # ";

    private EdgesOfTokens() {
    }

    static void all() {
        fourTexts();
        bytesOfAText();
        blanks();
        letters();
        digits();
        numbers();
        longest();
        clauses();
        liftClause();
        mayClause();
        fitsClause();
        eachOnce();
        layClause();
        outClause();
        lendClause();
        either();
        both();
        ask();
        sum();
        product();
        one();
    }

    private static void fourTexts() {
        Edges.says("TEXTS 0 .. 3:");
        WalledIn x = new WalledIn();
        for (int i = 0; i < 4; i++) {
            Edges.due("one with a fault takes no number", Check.read(x, "lay"), -1);
            Edges.due("text " + i, Check.read(x, "lay 0;"), i);
            Edges.due("texts", x.about(4), i + 1);
        }
        Edges.due("the fifth", Check.read(x, "lay 0;"), -1);
        Edges.due("texts", x.about(4), 4);
        Edges.due("by(3)", x.by(3), true);
        Edges.due("by(4)", x.by(4), false);
        Edges.due("by(0)", x.by(0), true);
        Edges.due("by(-2)", x.by(-2), false);
    }

    private static void bytesOfAText() {
        Edges.says("of up to 300 bytes.");
        Edges.right("");
        Edges.right(" ".repeat(300));
        Edges.right(" ".repeat(293) + "lift 7;");
        Edges.fault(" ".repeat(294) + "lift 7", 1, 300);
        Edges.fault(" ".repeat(299) + "!", 1, 299);
        Edges.right("lift" + " ".repeat(294) + "7;");
        Edges.right("lift 1" + "+1".repeat(146) + " ;");
        WalledIn x = Edges.ruled("lift 1" + "+1".repeat(146) + " ;");
        Edges.due("147 ones", x.of(0, 2), 147);
        WalledIn y = Edges.ruled("lift" + " ".repeat(5) + "1" + "+1".repeat(144) + " ;");
        Edges.due("145 ones", y.of(0, 2), 145);
        Edges.due("the longest number", Edges.ruled("lift" + "0".repeat(291) + "9876;").of(0, 2),
            9876);
        Edges.fault(";".repeat(300), 1, 0);
        Edges.fault("lift" + "-".repeat(296), 3, 12);
        Edges.fault("lay 1" + ";".repeat(295), 1, 6);
        Edges.right("lift1" + "+1".repeat(147) + ";");
        Edges.fault("lift1" + "+1".repeat(147) + "+", 1, 300);
        WalledIn z = new WalledIn();
        for (int i = 0; i < 15; i++) {
            z.feed(0x20202020, 0x20202020, 0x20202020, 0x20202020, 0x20202020);
        }
        Edges.due("20 more can't come", z.feed(0, 0, 0, 0, 0), -1);
        Edges.due("300 blanks", z.text(), 0);
    }

    private static boolean isLetter(int c) {
        return "abcdefghijklmnopqrstuvwxyzABCDEFGHIJKLMNOPQRSTUVWXYZ".indexOf(c) >= 0;
    }

    private static boolean isDigit(int c) {
        return "0123456789".indexOf(c) >= 0;
    }

    private static void blanks() {
        Edges.says("TOKENS, blanks (32, 10) aside:");
        Edges.right("\n lay\n\n 1 \n;\n ");
        Edges.right("lay1;");
        for (int c = 0; c < 256; c++) {
            String text = "lay 1" + (char) c + ";";
            if (c == 32 || c == 10 || c == '0' || c == '1') {
                Edges.right(text);
            } else if (isDigit(c)) {
                Edges.fault(text, 2, 4);
            } else {
                Edges.fault(text, 1, c == ';' ? 6 : 5);
            }
        }
    }

    private static void letters() {
        Edges.says("letters a .. z, A .. Z one behind the other (one TOKEN)");
        for (int c = 0; c < 256; c++) {
            String text = "lay" + (char) c + "1;";
            if (isLetter(c)) {
                Edges.fault(text, 1, 0);
            } else if (c == 32 || c == 10 || c == '0' || c == '1') {
                Edges.right(text);
            } else {
                Edges.fault(text, isDigit(c) ? 2 : 1, 3);
            }
        }
        Edges.fault("la y 1;", 1, 0);
        Edges.fault("LAY 1;", 1, 0);
        Edges.fault("laY 1;", 1, 0);
        Edges.fault("layy 1;", 1, 0);
        Edges.fault("la 1;", 1, 0);
        Edges.fault("lift we ight;", 1, 5);
        Edges.fault("may stone<2andstone<3;", 1, 11);
        Edges.right("may stone<2and stone<3or not 1<2;");
        Edges.fault("x".repeat(300), 1, 0);
    }

    private static void digits() {
        Edges.says("digits likewise");
        for (int c = 0; c < 256; c++) {
            String text = "lift 1" + (char) c + "1;";
            if (isDigit(c)) {
                int want = 101 + 10 * (c - '0');
                Edges.due("the digit " + (char) c, Edges.ruled(text).of(0, 2), want);
            } else if ("+-*/".indexOf(c) >= 0) {
                Edges.right(text);
            } else {
                Edges.fault(text, 1, c == 32 || c == 10 || c == ';' ? 7 : 6);
            }
        }
        Edges.fault("lift 1 1;", 1, 7);
    }

    private static void numbers() {
        Edges.says("(NUMBERS, 0 .. 9999),");
        Edges.lift("0", 0);
        Edges.lift("9999", 9999);
        Edges.lift("000000000000009999", 9999);
        Edges.fault("lift 10000;", 2, 5);
        Edges.fault("lift 010000;", 2, 5);
        Edges.fault("lift 99999999999999999999;", 2, 5);
        Edges.fault("lift 4294967297;", 2, 5);
        Edges.fault("lift 2147483648;", 2, 5);
        Edges.fault("lift 18446744073709551617;", 2, 5);
        Edges.fault("lift " + "1".repeat(294) + ";", 2, 5);
    }

    private static void longest() {
        Edges.says("<= >= < > = # + - * / ( ) ; (the longest).");
        Edges.may("2<=2", true);
        Edges.may("2>=2", true);
        Edges.may("2<-2", false);
        Edges.may("2>-2", true);
        Edges.may("2=(2)", true);
        Edges.may("2#(2)", false);
        Edges.lift("2--(2)", 4);
        Edges.lift("2*(6/3)", 4);
        Edges.fault("may 2< =2;", 1, 7);
        Edges.fault("may 2> =2;", 1, 7);
        Edges.fault("may 2<\n=2;", 1, 7);
        Edges.fault("may 2=<2;", 1, 6);
        Edges.fault("may 2=>2;", 1, 6);
        Edges.fault("may 2==2;", 1, 6);
        Edges.fault("may 2<>2;", 1, 6);
        Edges.fault("may 2<<2;", 1, 6);
        Edges.fault("may 2<==2;", 1, 7);
        Edges.fault("may 2>==2;", 1, 7);
        Edges.fault("may 2#=2;", 1, 6);
        Edges.fault("may 2<", 1, 6);
        Edges.fault("may 2<=", 1, 7);
    }

    private static void clauses() {
        Edges.says("{CLAUSE}, 24 at most:");
        WalledIn x = Edges.stones(1);
        Edges.due("none", Check.read(x, ""), 0);
        Edges.due("none is played", x.played(0), -1);
        Edges.due("24", Check.read(x, "lay 0;out 0;".repeat(12)), 1);
        Edges.due("24 are played", x.played(1), -1);
        Edges.due("steps", x.about(6), 24);
        Edges.due("25", Check.read(x, "lay 0;out 0;".repeat(12) + "lay 0;"), -1);
        Edges.due("fault(0)", x.fault(0), 6);
        Edges.due("24, of which the last can't be",
            Check.read(x, "lay 0;out 0;".repeat(11) + "lay 0;lay 0;"), 2);
        Edges.due("played", x.played(2), 23);
        Edges.right("lift 1;may 1<2;fits 1<2;" + "lay 0;".repeat(21));
        Edges.fault("lift 1;may 1<2;fits 1<2;" + "lay 0;".repeat(22), 6, 24 + 21 * 6);
        Edges.fault(";", 1, 0);
        Edges.fault("lay 0;;", 1, 6);
    }

    /** Behind that context each TOKEN: those that are let, and no other, may stand there. */
    private static void mayStand(String context, String let, int faultOfQuarry) {
        for (String token : TOKENS) {
            String text = context + " " + token;
            boolean isLet = let.contains(" " + token + " ");
            if (isLet && token.equals(";")) {
                Edges.right(text);
            } else if (isLet) {
                Edges.fault(text, 1, text.length());
            } else {
                int what = token.equals("quarry") ? faultOfQuarry : 1;
                Edges.fault(text, what, context.length() + 1);
            }
        }
    }

    private static void liftClause() {
        Edges.says("lift SUM ; or");
        Edges.right("lift 7;");
        mayStand("lift", ONE, 5);
        Edges.fault("lift 7", 1, 6);
        Edges.fault("lift 7;7", 1, 7);
        Edges.fault("lift 7<8;", 1, 6);
    }

    private static void mayClause() {
        Edges.says("may EITHER ; or");
        Edges.right("may 7<8;");
        mayStand("may", ONE + " not ", 5);
        Edges.fault("may 7;", 1, 5);
        Edges.fault("may 7<8", 1, 7);
        Edges.fault("may 7<8;7", 1, 8);
    }

    private static void fitsClause() {
        Edges.says("fits EITHER ;");
        Edges.right("fits 7<8;");
        for (String token : TOKENS) {
            String text = "fits " + token;
            if ((OF_ALL + " quarry 7 ( - not ").contains(" " + token + " ")) {
                Edges.fault(text, 1, text.length());
            } else {
                Edges.fault(text, OF_SETS.contains(" " + token + " ") ? 5 : 1, 5);
            }
        }
        Edges.fault("fits 7;", 1, 6);
        Edges.fault("fits 7<8", 1, 8);
    }

    private static void eachOnce() {
        Edges.says("(each once) or");
        Edges.right("lift 1;may 1<2;fits 1<2;");
        Edges.right("fits 1<2;lay 1;may 1<2;lay 1;lift 1;");
        Edges.fault("lift 1;lift 1;", 4, 7);
        Edges.fault("may 1<2;may 1<2;", 4, 8);
        Edges.fault("fits 1<2;fits 1<2;", 4, 9);
        Edges.right("lay 1;lay 1;out 1;out 1;lend 1 to 2;lend 1 to 2;");
    }

    private static void layClause() {
        Edges.says("lay NUMBER ; or");
        Edges.right("lay 7;");
        mayStand("lay", " 7 ", 1);
        mayStand("lay 7", " ; ", 1);
        Edges.fault("lay 7", 1, 5);
        Edges.fault("lay 7 to 7;", 1, 6);
        mayStand("lay 7;", " lift may fits lay out lend ", 1);
    }

    private static void outClause() {
        Edges.says("out NUMBER ; or");
        Edges.right("out 7;");
        mayStand("out", " 7 ", 1);
        mayStand("out 7", " ; ", 1);
        Edges.fault("out 7", 1, 5);
        Edges.fault("out 7 7;", 1, 6);
        mayStand("out 7;", " lift may fits lay out lend ", 1);
    }

    private static void lendClause() {
        Edges.says("lend NUMBER to NUMBER ;.");
        Edges.right("lend 7 to 7;");
        mayStand("lend", " 7 ", 1);
        mayStand("lend 7", " to ", 1);
        mayStand("lend 7 to", " 7 ", 1);
        mayStand("lend 7 to 7", " ; ", 1);
        Edges.fault("lend 7 to 7", 1, 11);
        Edges.fault("lend 7 to 7 to 7;", 1, 12);
        mayStand("lend 7 to 7;", " lift may fits lay out lend ", 1);
    }

    private static void either() {
        Edges.says("EITHER: BOTH {or BOTH}.");
        Edges.may("1=1", true);
        Edges.may("1=2 or 1=2 or 1=2", false);
        Edges.may("1=1 or 1=2 or 1=2", true);
        Edges.may("1=2 or 1=1 or 1=2", true);
        Edges.may("1=2 or 1=2 or 1=1", true);
        Edges.may("1=2 or ".repeat(40) + "1=1", true);
        Edges.may("1=2 or ".repeat(41) + "1=2", false);
        Edges.fault("may or 1=1;", 1, 4);
        Edges.fault("may 1=1 or;", 1, 10);
        Edges.fault("may 1=1 or or 1=1;", 1, 11);
        mayStand("may 1=1 or", ONE + " not ", 5);
    }

    private static void both() {
        Edges.says("BOTH: ASK {and ASK}.");
        Edges.may("1=1 and 1=1 and 1=1", true);
        Edges.may("1=2 and 1=1 and 1=1", false);
        Edges.may("1=1 and 1=2 and 1=1", false);
        Edges.may("1=1 and 1=1 and 1=2", false);
        Edges.may("1=1 and ".repeat(35) + "1=1", true);
        Edges.may("1=1 and ".repeat(35) + "1=2", false);
        Edges.may("1=1 or 1=1 and 1=2", true);
        Edges.may("1=2 and 1=1 or 1=1", true);
        Edges.may("1=2 and 1=2 or 1=1 and 1=1", true);
        Edges.fault("may and 1=1;", 1, 4);
        Edges.fault("may 1=1 and;", 1, 11);
        Edges.fault("may 1=1 and or 1=1;", 1, 12);
        mayStand("may 1=1 and", ONE + " not ", 5);
    }

    private static void ask() {
        Edges.says("ASK: not ASK, or SUM one of < <= > >= = # (unlike) SUM.");
        String[] signs = {"<", "<=", ">", ">=", "=", "#"};
        boolean[][] so = {{true, false, false}, {true, true, false}, {false, false, true},
            {false, true, true}, {false, true, false}, {true, false, true}};
        for (int i = 0; i < signs.length; i++) {
            for (int left = 6; left <= 8; left++) {
                Edges.may(left + signs[i] + "weight", so[i][left - 6]);
                Edges.may("not " + left + signs[i] + "weight", !so[i][left - 6]);
                Edges.may("not not " + left + signs[i] + "weight", so[i][left - 6]);
            }
        }
        for (String sum : new String[] {"5+2", "9-2", "-2+9", "21/3", "(3+4)", "7*1", "1*6+1"}) {
            Edges.may("weight<" + sum, false);
            Edges.may("weight=" + sum, true);
            Edges.may("weight>=" + sum, true);
            Edges.may(sum + "#weight", false);
            Edges.may(sum + "+1<=weight", false);
            Edges.may(sum + "<=weight-1", false);
            Edges.may(sum + "-1=weight-1", true);
        }
        Edges.may("not 1=2 and 1=2", false);
        Edges.may("not 1=1 or 1=1", true);
        mayStand("may not", ONE + " not ", 5);
        mayStand("may 1", JOINS + ASKS, 1);
        mayStand("may 1 <", ONE, 5);
        mayStand("may 1 < 2", JOINS + " and or ; ", 1);
        mayStand("may not 1", JOINS + ASKS, 1);
        Edges.fault("may not;", 1, 7);
        Edges.fault("may not (1=2);", 1, 10);
        Edges.fault("may 1=1=1;", 1, 7);
        Edges.fault("may 1=not 1=1;", 1, 6);
    }

    private static void sum() {
        Edges.says("SUM: PRODUCT {+ or - PRODUCT}.");
        Edges.lift("5", 5);
        Edges.lift("1+2-3+4", 4);
        Edges.lift("9-1*2-3", 4);
        Edges.lift("9-6/2+1", 7);
        Edges.fault("lift +1;", 1, 5);
        Edges.fault("lift 1+;", 1, 7);
        Edges.fault("lift 1++1;", 1, 7);
        mayStand("lift 1", JOINS + " ; ", 1);
        mayStand("lift 1 +", ONE, 5);
        mayStand("lift 1 -", ONE, 5);
    }

    private static void product() {
        Edges.says("PRODUCT: ONE {* or / ONE}.");
        Edges.lift("2*6/3*4", 16);
        Edges.lift("1+2*3", 7);
        Edges.lift("2*3+1", 7);
        Edges.lift("2*(3+1)", 8);
        Edges.fault("lift *1;", 1, 5);
        Edges.fault("lift /1;", 1, 5);
        Edges.fault("lift 1*;", 1, 7);
        Edges.fault("lift 1//1;", 1, 7);
        mayStand("lift 1 *", ONE, 5);
        mayStand("lift 1 /", ONE, 5);
    }

    private static void one() {
        Edges.says("ONE: NUMBER, NAME, ( SUM ), - ONE.");
        Edges.lift("8", 8);
        Edges.lift("weight", 7);
        Edges.lift("(8)", 8);
        Edges.lift("((8+1)*2)", 18);
        Edges.lift("--8", 8);
        Edges.lift("10+-8", 2);
        Edges.lift("10--8", 18);
        Edges.lift("10-(-8)", 18);
        Edges.lift("-(0-8)", 8);
        Edges.lift("-weight*-1", 7);
        Edges.lift("-1+9", 8);
        Edges.fault("lift ();", 1, 6);
        Edges.fault("lift (8;", 1, 7);
        Edges.fault("lift 8);", 1, 6);
        Edges.fault("lift (8));", 1, 8);
        Edges.fault("lift -;", 1, 6);
        Edges.fault("may (1<2);", 1, 6);
        Edges.fault("may (1<2)=1;", 1, 6);
        mayStand("lift (", ONE, 5);
        mayStand("lift -", ONE, 5);
        mayStand("lift (1", JOINS + " ) ", 1);
        mayStand("lift (1)", JOINS + " ; ", 1);
        mayStand("may (1", JOINS + " ) ", 1);
        mayStand("may (", ONE, 5);
        mayStand("may (1)", JOINS + ASKS, 1);
    }
}
