import java.util.Random;

/** Texts by chance: mostly sound ones, some with a byte or a TOKEN out of place. */
final class RandomTexts {
    private static final String[] COMMON = {"stone", "weight", "height", "vein"};
    private static final String[] UPON = {"laid", "top", "hour"};
    private static final String[] HOW = {"<", "<=", ">", ">=", "=", "#"};
    private static final String[] TOKENS = {"stone", "weight", "height", "vein", "laid", "top",
        "hour", "quarry", "lift", "may", "fits", "lay", "out", "lend", "to", "or", "and", "not",
        "<", "<=", ">", ">=", "=", "#", "+", "-", "*", "/", "(", ")", ";", "7", "0", "12", "10",
        "9999", "10000", "00003", "123456789012345", "x", "Lift", "!", "\t", "\u00ff", "\u0000"};

    private final Random random;
    private final int stones;
    private final StringBuilder text = new StringBuilder();
    /** So deep the text likes to go: beyond 8 it has a FAULT. */
    private int wanted = 0;

    RandomTexts(Random random, int stones) {
        this.random = random;
        this.stones = Math.max(1, stones);
    }

    String next() {
        text.setLength(0);
        wanted = random.nextInt(8) == 0 ? 6 + random.nextInt(5) : 0;
        if (random.nextInt(12) == 0) {
            soup();
        } else {
            clauses();
        }
        spoil();
        if (text.length() > 300) {
            text.setLength(300);
        }
        return text.toString();
    }

    private void soup() {
        int n = random.nextInt(30);
        for (int i = 0; i < n; i++) {
            put(TOKENS[random.nextInt(TOKENS.length)]);
        }
    }

    private void spoil() {
        if (random.nextInt(3) != 0 || text.length() == 0) {
            return;
        }
        int at = random.nextInt(text.length());
        switch (random.nextInt(4)) {
            case 0:
                text.deleteCharAt(at);
                break;
            case 1:
                text.insert(at, TOKENS[random.nextInt(TOKENS.length)]);
                break;
            case 2:
                text.setLength(at);
                break;
            default:
                text.insert(at, " " + TOKENS[random.nextInt(TOKENS.length)] + "\n");
                break;
        }
    }

    private void clauses() {
        boolean[] told = new boolean[3];
        int n = random.nextInt(20) == 0 ? 26 : random.nextInt(7);
        for (int i = 0; i < n; i++) {
            int kind = random.nextInt(n > 20 ? 20 : 7);
            if (kind < 3 && told[kind] && random.nextInt(10) != 0) {
                kind = 5;
            }
            if (kind < 3) {
                told[kind] = true;
            }
            clause(kind);
        }
    }

    private void clause(int kind) {
        switch (kind) {
            case 0:
                put("lift");
                sum(false, 0);
                break;
            case 1:
                put("may");
                either(false);
                break;
            case 2:
                put("fits");
                either(true);
                break;
            case 3:
                put("out");
                put("" + random.nextInt(stones));
                break;
            case 4:
                put("lend");
                put("" + random.nextInt(5));
                put("to");
                put("" + random.nextInt(5));
                break;
            default:
                put("lay");
                put("" + random.nextInt(stones));
                break;
        }
        put(";");
    }

    private void either(boolean fits) {
        ask(fits, 0);
        while (random.nextInt(3) == 0) {
            put(random.nextBoolean() ? "or" : "and");
            ask(fits, 0);
        }
    }

    private void ask(boolean fits, int depth) {
        if (depth < wanted ? random.nextInt(3) == 0 : depth < 3 && random.nextInt(5) == 0) {
            put("not");
            ask(fits, depth + 1);
            return;
        }
        sum(fits, depth);
        put(HOW[random.nextInt(HOW.length)]);
        sum(fits, depth);
    }

    private void sum(boolean fits, int depth) {
        one(fits, depth);
        while (random.nextInt(5) < 2) {
            put("+-*/".substring(random.nextInt(4)).substring(0, 1));
            one(fits, depth);
        }
    }

    private void one(boolean fits, int depth) {
        int kind = random.nextInt(depth > 4 ? 10 : 14);
        if (depth < wanted && random.nextInt(4) != 0) {
            kind = 10 + random.nextInt(4);
        }
        if (kind < 3) {
            int[] most = {5, 30, 10000};
            put("" + random.nextInt(most[random.nextInt(3)]));
        } else if (kind < 6) {
            put(COMMON[random.nextInt(4)]);
        } else if (kind < 10) {
            put(random.nextInt(60) == 0 ? "quarry" : fits ? "quarry" : UPON[random.nextInt(3)]);
        } else if (kind < 12) {
            put("-");
            one(fits, depth + 1);
        } else {
            put("(");
            sum(fits, depth + 1);
            put(")");
        }
    }

    /** A TOKEN, with a blank ahead where it must be or by chance. */
    private void put(String token) {
        if (text.length() > 0) {
            char last = text.charAt(text.length() - 1);
            boolean joins = Character.isLetterOrDigit(last)
                && Character.isLetterOrDigit(token.charAt(0));
            if (joins || random.nextInt(6) == 0) {
                text.append(random.nextInt(8) == 0 ? '\n' : ' ');
            }
        }
        text.append(token);
    }
}
