/** What the tests share: counts wrong answers and feeds texts to a WalledIn. */
final class Check {
    private int wrong = 0;
    private int asked = 0;

    void due(String call, long got, long want) {
        asked++;
        if (got != want) {
            wrong++;
            System.out.println(call + " answered " + got + ", due is " + want);
        }
    }

    void due(String call, boolean got, boolean want) {
        due(call, got ? 1 : 0, want ? 1 : 0);
    }

    void endWith(String what) {
        System.out.println(what + ": " + asked + " answers, " + wrong + " wrong");
        if (wrong != 0) {
            System.exit(1);
        }
    }

    boolean allRight() {
        return wrong == 0;
    }

    /** Puts a text on the tape of x (emptied first): bytes 0 to 255, one for each char. */
    static void feed(WalledIn x, String text) {
        x.end(0);
        for (int i = 0; i < text.length(); i += 20) {
            x.feed(four(text, i), four(text, i + 4), four(text, i + 8), four(text, i + 12),
                four(text, i + 16));
        }
        x.end(text.length());
    }

    static int four(String text, int at) {
        int value = 0;
        for (int i = at; i < at + 4; i++) {
            value = value << 8 | (i < text.length() ? text.charAt(i) & 255 : 0);
        }
        return value;
    }

    static int read(WalledIn x, String text) {
        feed(x, text);
        return x.text();
    }
}
