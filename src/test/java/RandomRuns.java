import java.util.ArrayList;
import java.util.List;
import java.util.Random;

/** Runs of calls by chance (always the same), held against Slow: every promise is in them. */
public final class RandomRuns {
    private static final int RUNS = 1000;
    // What is asked together may go on behind this: the 512 that are promised are not passed.
    private static final int CALLS = 480;

    private final Random random;
    private final WalledIn fast = new WalledIn();
    private final Slow slow = new Slow();
    private final List<String> log = new ArrayList<>();
    private final int mostStones;
    private final boolean isTall;
    private final RandomTexts texts;
    private int calls = 0;
    private boolean isWrong = false;

    private RandomRuns(long seed) {
        // Neighbouring seeds begin alike: they are spread first.
        random = new Random(seed * 0x9E3779B97F4A7C15L);
        isTall = random.nextInt(4) == 0;
        mostStones = isTall ? 13 : random.nextInt(7);
        texts = new RandomTexts(random, mostStones);
    }

    public static void main(String[] args) {
        int runs = args.length > 0 ? Integer.parseInt(args[0]) : RUNS;
        long first = args.length > 1 ? Long.parseLong(args[1]) : 0;
        long calls = 0;
        int wrong = 0;
        for (long seed = first; seed < first + runs && wrong < 3; seed++) {
            RandomRuns run = new RandomRuns(seed);
            run.go();
            calls += run.calls;
            if (run.isWrong) {
                wrong++;
                System.out.println("run " + seed + ":");
                for (String line : run.log) {
                    System.out.println("  " + line);
                }
            }
        }
        System.out.println("random runs: " + calls + " calls, " + wrong + " runs wrong");
        if (wrong != 0) {
            System.exit(1);
        }
    }

    private void due(String call, long got, long want) {
        calls++;
        log.add(call + " answered " + got + (got == want ? "" : ", due is " + want));
        if (got != want) {
            isWrong = true;
        }
    }

    private void due(String call, boolean got, boolean want) {
        due(call, got ? 1 : 0, want ? 1 : 0);
    }

    private void go() {
        if (random.nextInt(8) != 0) {
            setUp();
        }
        while (calls < CALLS && !isWrong) {
            int group = random.nextInt(20);
            if (group < 2) {
                tell();
            } else if (group == 2) {
                read();
            } else if (group < 9) {
                doByHand();
            } else {
                ask();
            }
        }
    }

    private void setUp() {
        int stones = random.nextInt(mostStones + 1);
        for (int i = 0; i < stones; i++) {
            tellStone();
        }
        int houses = random.nextInt(9);
        for (int i = 0; i < houses; i++) {
            tellHouse();
        }
        for (int i = 0; i < houses * 2; i++) {
            tellTouch(Math.max(1, houses - 1));
        }
        for (int i = random.nextInt(3); i > 0; i--) {
            read();
        }
        due("image()", fast.image(), slow.image());
    }

    /** From low to high, or now and then a little or far beyond. */
    private int some(int low, int high) {
        switch (random.nextInt(70)) {
            case 0:
                return low - 1;
            case 1:
                return high + 1;
            case 2:
                int[] far = {Integer.MIN_VALUE, Integer.MAX_VALUE, -2, -3, 31, 32, 33, 1 << 20};
                return far[random.nextInt(far.length)];
            default:
                return low + random.nextInt(high - low + 1);
        }
    }

    private int someStone() {
        return some(0, Math.max(1, Math.min(11, mostStones)));
    }

    private void tell() {
        switch (random.nextInt(6)) {
            case 0:
            case 1:
                tellStone();
                break;
            case 2:
                int h = some(0, 23);
                due("hour(" + h + ")", fast.hour(h), slow.hour(h));
                break;
            case 3:
                tellHouse();
                break;
            default:
                tellTouch(7);
                break;
        }
    }

    private void tellHouse() {
        int spare = random.nextInt(4) == 0 ? some(0, 99) : some(0, 3);
        due("house(" + spare + ")", fast.house(spare), slow.house(spare));
    }

    private void tellTouch(int most) {
        int one = some(0, most);
        int other = some(0, most);
        boolean is = random.nextInt(6) != 0;
        due("touch(" + one + ", " + other + ", " + is + ")",
            fast.touch(one, other, is), slow.touch(one, other, is));
    }

    private void tellStone() {
        int n = slow.about(0);
        int weight = some(1, 99);
        int height = random.nextBoolean() ? some(0, 20) : some(0, 3);
        int vein = some(0, 99);
        int bearers = random.nextInt(1 << n);
        int need = random.nextInt(3) == 0 ? 0 : random.nextInt(Integer.bitCount(bearers) + 1);
        if (isTall && n > 2) {
            bearers |= 1 << n - 2 | (random.nextInt(3) == 0 ? 0 : 1 << n - 1);
            need = Integer.bitCount(bearers);
        }
        if (random.nextInt(20) == 0) {
            bearers = some(0, 1 << n);
            need = some(0, Integer.bitCount(bearers));
        }
        if (n >= mostStones) {
            weight = 100;
        }
        due("stone(" + weight + ", " + height + ", " + vein + ", " + bearers + ", " + need + ")",
            fast.stone(weight, height, vein, bearers, need),
            slow.stone(weight, height, vein, bearers, need));
    }

    private void read() {
        if (random.nextInt(6) == 0) {
            int n = some(0, 60);
            due("end(" + n + ")", fast.end(n), slow.end(n));
            return;
        }
        if (random.nextInt(8) == 0) {
            int a = random.nextInt();
            due("feed", fast.feed(a, a * 3, a * 5, a * 7, a * 9),
                slow.feed(a, a * 3, a * 5, a * 7, a * 9));
            return;
        }
        if (random.nextInt(10) != 0) {
            due("end(0)", fast.end(0), slow.end(0));
        }
        feed(texts.next());
        due("text()", fast.text(), slow.text());
        due("fault(0)", fast.fault(0), slow.fault(0));
        due("fault(1)", fast.fault(1), slow.fault(1));
        int what = some(0, 1);
        due("fault(" + what + ")", fast.fault(what), slow.fault(what));
        if (random.nextBoolean()) {
            int t = slow.about(4) - 1;
            due("by(" + t + ")", fast.by(t), slow.by(t));
        }
    }

    private void feed(String text) {
        int had = Math.max(0, slow.about(8));
        for (int i = 0; i < text.length(); i += 20) {
            int a = Check.four(text, i);
            int b = Check.four(text, i + 4);
            int c = Check.four(text, i + 8);
            int d = Check.four(text, i + 12);
            int e = Check.four(text, i + 16);
            due("feed '" + text.substring(i, Math.min(i + 20, text.length())) + "'",
                fast.feed(a, b, c, d, e), slow.feed(a, b, c, d, e));
        }
        int n = had + text.length();
        due("end(" + n + ")", fast.end(n), slow.end(n));
    }

    private void doByHand() {
        int s = someStone();
        switch (random.nextInt(16)) {
            case 0:
            case 1:
            case 2:
            case 3:
                due("lay(" + s + ")", fast.lay(s), slow.lay(s));
                break;
            case 4:
            case 5:
                due("out(" + s + ")", fast.out(s), slow.out(s));
                break;
            case 6:
            case 7:
            case 8:
                int h = some(0, 7);
                int to = some(0, 7);
                due("lend(" + h + ", " + to + ")", fast.lend(h, to), slow.lend(h, to));
                break;
            case 9:
                int t = some(0, 3);
                due("played(" + t + ")", fast.played(t), slow.played(t));
                break;
            case 10:
                undoSome();
                break;
            case 11:
                int seed = some(0, 9999);
                int n = some(1, 99);
                due("town(" + seed + ", " + n + ")", fast.town(seed, n), slow.town(seed, n));
                break;
            case 12:
                int text = some(-1, 3);
                due("by(" + text + ")", fast.by(text), slow.by(text));
                break;
            case 13:
                int low = random.nextInt(4) == 0 ? some(0, 20) : some(0, 1);
                int high = random.nextInt(4) != 0 ? some(Math.max(0, Math.min(low, 20)), 20) : low;
                due("sound(" + low + ", " + high + ")", fast.sound(low, high),
                    slow.sound(low, high));
                break;
            default:
                rarely();
                break;
        }
    }

    private void undoSome() {
        int n = random.nextInt(60) == 0 ? 35 : 1 + random.nextInt(3);
        for (int i = 0; i < n; i++) {
            due("undo()", fast.undo(), slow.undo());
        }
    }

    private void rarely() {
        switch (random.nextInt(8)) {
            case 0:
                due("hush()", fast.hush(), slow.hush());
                break;
            case 1:
                due("back()", fast.back(), slow.back());
                break;
            case 2:
            case 3:
                due("image()", fast.image(), slow.image());
                break;
            default:
                break;
        }
    }

    private void ask() {
        int s = someStone();
        int h = some(0, 7);
        switch (random.nextInt(12)) {
            case 0:
            case 1:
                int what = random.nextInt(5) == 0 ? some(0, 4) : 1 + random.nextInt(3);
                due("of(" + s + ", " + what + ")", fast.of(s, what), slow.of(s, what));
                break;
            case 2:
                int set = some(0, (1 << Math.max(1, slow.about(0))) - 1);
                due("stands(" + set + ")", fast.stands(set), slow.stands(set));
                break;
            case 3:
                int l = random.nextInt(3) == 0 ? some(-2, 12) : some(-2, slow.about(0));
                due("least(" + l + ")", fast.least(l), slow.least(l));
                break;
            case 4:
                due("orders()", fast.orders(), slow.orders());
                break;
            case 5:
                int k = some(0, 2);
                due("heard(" + k + ")", fast.heard(k), slow.heard(k));
                break;
            case 6:
                due("with(" + s + ")", fast.with(s), slow.with(s));
                break;
            case 7:
                int of = some(0, 2);
                due("houseOf(" + h + ", " + of + ")", fast.houseOf(h, of), slow.houseOf(h, of));
                break;
            case 8:
                int to = some(0, 7);
                int i = some(-1, 4);
                due("row(" + h + ", " + to + ", " + i + ")", fast.row(h, to, i),
                    slow.row(h, to, i));
                break;
            case 9:
                due("winter()", fast.winter(), slow.winter());
                break;
            default:
                int about = random.nextBoolean() ? some(0, 8) : some(9, 43);
                due("about(" + about + ")", fast.about(about), slow.about(about));
                break;
        }
    }
}
