import java.util.ArrayList;
import java.util.List;

/** A TEXT, read by descent along the document's grammar into a tree. */
final class SlowText {
    int fault = 0;
    int place = -1;
    Node lift;
    Node may;
    Node fits;
    /** The clauses: 'l' lay, 'o' out, 't' lend, 'r' a rule; then the NUMBERS. */
    final List<int[]> clauses = new ArrayList<>();

    private final String text;
    private int at;
    private int start;
    private String token;
    private String clause;

    private static final class Fault extends RuntimeException {
        private static final long serialVersionUID = 1L;
    }

    static final class Node {
        final String deed;
        final Node a;
        final Node b;
        long number;

        Node(String deed, Node a, Node b) {
            this.deed = deed;
            this.a = a;
            this.b = b;
        }

        long value(int[] names) {
            long r = step(names);
            return r > 1000000 ? 1000000 : r < -1000000 ? -1000000 : r;
        }

        private long step(int[] names) {
            int name = NAMES.indexOf(deed);
            if (name >= 0) {
                return names[name];
            }
            if (deed.equals("number")) {
                return number;
            }
            long x = a.value(names);
            long y = b == null ? 0 : b.value(names);
            switch (deed) {
                case "negate": return -x;
                case "not": return x == 1 ? 0 : 1;
                case "+": return x + y;
                case "-": return x - y;
                case "*": return x * y;
                case "/": return y == 0 ? 0 : x / y;
                case "<": return x < y ? 1 : 0;
                case "<=": return x <= y ? 1 : 0;
                case ">": return x > y ? 1 : 0;
                case ">=": return x >= y ? 1 : 0;
                case "=": return x == y ? 1 : 0;
                case "#": return x != y ? 1 : 0;
                case "and": return x == 1 && y == 1 ? 1 : 0;
                case "or": return x == 1 || y == 1 ? 1 : 0;
                default: throw new IllegalStateException(deed);
            }
        }
    }

    static final List<String> NAMES =
        List.of("stone", "weight", "height", "vein", "laid", "top", "hour", "quarry");
    private static final List<String> CLAUSES =
        List.of("lift", "may", "fits", "lay", "out", "lend");

    SlowText(String text) {
        this.text = text;
        try {
            next();
            while (!token.isEmpty()) {
                clause();
            }
        } catch (Fault f) {
            place = start;
        }
    }

    private void fail(int what) {
        fault = what;
        throw new Fault();
    }

    private static boolean letter(char c) {
        return c >= 'a' && c <= 'z' || c >= 'A' && c <= 'Z';
    }

    private static boolean digit(char c) {
        return c >= '0' && c <= '9';
    }

    /** The next TOKEN; empty at the end; "?" for what is none. */
    private void next() {
        while (at < text.length() && (text.charAt(at) == ' ' || text.charAt(at) == '\n')) {
            at++;
        }
        start = at;
        if (at == text.length()) {
            token = "";
            return;
        }
        char c = text.charAt(at++);
        if (letter(c)) {
            while (at < text.length() && letter(text.charAt(at))) {
                at++;
            }
        } else if (digit(c)) {
            while (at < text.length() && digit(text.charAt(at))) {
                at++;
            }
        } else if ((c == '<' || c == '>') && at < text.length() && text.charAt(at) == '=') {
            at++;
        } else if ("<>=#+-*/();".indexOf(c) < 0) {
            token = "?";
            return;
        }
        token = text.substring(start, at);
    }

    private void expect(String what) {
        if (!token.equals(what)) {
            fail(1);
        }
        next();
    }

    private void clause() {
        clause = token;
        if (!CLAUSES.contains(clause)) {
            fail(1);
        }
        if (clause.equals("lift") && lift != null || clause.equals("may") && may != null
            || clause.equals("fits") && fits != null) {
            fail(4);
        }
        if (clauses.size() == 24) {
            fail(6);
        }
        next();
        int[] c = {'r', 0, 0};
        switch (clause) {
            case "lift":
                lift = sum(0);
                break;
            case "may":
                may = either();
                break;
            case "fits":
                fits = either();
                break;
            case "lay":
                c[0] = 'l';
                c[1] = number(11);
                break;
            case "out":
                c[0] = 'o';
                c[1] = number(11);
                break;
            default:
                c[0] = 't';
                c[1] = number(9);
                expect("to");
                c[2] = number(9);
                break;
        }
        expect(";");
        clauses.add(c);
    }

    private int number(int most) {
        if (token.isEmpty() || !digit(token.charAt(0))) {
            fail(1);
        }
        java.math.BigInteger value = new java.math.BigInteger(token);
        if (value.compareTo(java.math.BigInteger.valueOf(most)) > 0) {
            fail(2);
        }
        next();
        return value.intValue();
    }

    private Node either() {
        Node left = both();
        while (token.equals("or")) {
            next();
            left = new Node("or", left, both());
        }
        return left;
    }

    private Node both() {
        Node left = ask(0);
        while (token.equals("and")) {
            next();
            left = new Node("and", left, ask(0));
        }
        return left;
    }

    private Node ask(int open) {
        if (token.equals("not")) {
            if (open == 8) {
                fail(3);
            }
            next();
            return new Node("not", ask(open + 1), null);
        }
        Node left = sum(open);
        String how = token;
        if (!List.of("<", "<=", ">", ">=", "=", "#").contains(how)) {
            fail(1);
        }
        next();
        return new Node(how, left, sum(open));
    }

    private Node sum(int open) {
        Node left = product(open);
        while (token.equals("+") || token.equals("-")) {
            String how = token;
            next();
            left = new Node(how, left, product(open));
        }
        return left;
    }

    private Node product(int open) {
        Node left = one(open);
        while (token.equals("*") || token.equals("/")) {
            String how = token;
            next();
            left = new Node(how, left, one(open));
        }
        return left;
    }

    private Node one(int open) {
        if (token.equals("(") || token.equals("-")) {
            if (open == 8) {
                fail(3);
            }
            boolean bracket = token.equals("(");
            next();
            if (!bracket) {
                return new Node("negate", one(open + 1), null);
            }
            Node inside = sum(open + 1);
            expect(")");
            return inside;
        }
        int name = NAMES.indexOf(token);
        if (name >= 0) {
            boolean fitsOnly = name == 7;
            boolean notOfFits = name >= 4 && name <= 6;
            if (fitsOnly && !clause.equals("fits") || notOfFits && clause.equals("fits")) {
                fail(5);
            }
            Node n = new Node(token, null, null);
            next();
            return n;
        }
        Node n = new Node("number", null, null);
        n.number = number(9999);
        return n;
    }
}
