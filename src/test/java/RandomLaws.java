import java.util.Random;

/** Texts by chance (always the same), each on a new object: FAULTS and what the laws say. */
public final class RandomLaws {
    private static final int TEXTS = 40000;

    public static void main(String[] args) {
        Random random = new Random(20261117L);
        RandomTexts texts = new RandomTexts(random, 12);
        Check check = new Check();
        int[] faults = new int[7];
        for (int i = 0; i < TEXTS && check.allRight(); i++) {
            String text = texts.next();
            WalledIn fast = new WalledIn();
            Slow slow = new Slow();
            for (int at = 0; at < text.length(); at += 20) {
                int a = Check.four(text, at);
                int b = Check.four(text, at + 4);
                int c = Check.four(text, at + 8);
                int d = Check.four(text, at + 12);
                int e = Check.four(text, at + 16);
                fast.feed(a, b, c, d, e);
                slow.feed(a, b, c, d, e);
            }
            check.due("end", fast.end(text.length()), slow.end(text.length()));
            check.due("text() of " + text, fast.text(), slow.text());
            check.due("fault(0) of " + text, fast.fault(0), slow.fault(0));
            check.due("fault(1) of " + text, fast.fault(1), slow.fault(1));
            faults[fast.fault(0)]++;
            if (fast.fault(0) == 0) {
                askLaws(check, random, text, fast, slow);
            }
        }
        for (int i = 0; i < faults.length; i++) {
            // A kind of FAULT that no text has would go untested without a word.
            check.due("texts with fault " + i + " are many", faults[i] > TEXTS / 1000, true);
        }
        check.endWith("random laws");
    }

    private static void askLaws(Check check, Random random, String text, WalledIn fast, Slow slow) {
        check.due("by", fast.by(0), slow.by(0));
        for (int i = 0; i < 4; i++) {
            int weight = 1 + random.nextInt(99);
            int height = random.nextInt(21);
            int vein = random.nextInt(100);
            check.due("stone", fast.stone(weight, height, vein, 0, 0),
                slow.stone(weight, height, vein, 0, 0));
        }
        int hour = random.nextInt(24);
        check.due("hour", fast.hour(hour), slow.hour(hour));
        for (int i = 0; i < 4; i++) {
            for (int what = 0; what < 5; what++) {
                check.due("of(" + i + ", " + what + ") by " + text, fast.of(i, what),
                    slow.of(i, what));
            }
            int stone = random.nextInt(4);
            check.due("lay(" + stone + ") by " + text, fast.lay(stone), slow.lay(stone));
        }
        check.due("orders() by " + text, fast.orders(), slow.orders());
        check.due("least(-2) by " + text, fast.least(-2), slow.least(-2));
        check.due("played(0) of " + text, fast.played(0), slow.played(0));
        check.due("about(1) by " + text, fast.about(1), slow.about(1));
    }
}
