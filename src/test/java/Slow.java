import java.util.ArrayList;
import java.util.List;

/**
 * WalledIn once more, as plainly as the document says it and without regard to time: every
 * order is walked, every path, every set. The random runs hold WalledIn against it.
 */
final class Slow {
    static final int NONE = -1;

    private State now = new State();
    private State kept = new State();
    private StringBuilder tape = new StringBuilder();
    private int fault = -1;
    private int place = -1;

    private static final class State {
        List<int[]> stones = new ArrayList<>();
        List<int[]> houses = new ArrayList<>();
        boolean[][] near = new boolean[10][10];
        List<int[]> sounds = new ArrayList<>();
        List<SlowText> texts = new ArrayList<>();
        List<Step> steps = new ArrayList<>();
        int ruling = NONE;
        int hour;
        int laid;

        State copy() {
            State c = new State();
            c.stones.addAll(stones);
            for (int[] h : houses) {
                c.houses.add(h.clone());
            }
            for (int i = 0; i < 10; i++) {
                c.near[i] = near[i].clone();
            }
            c.sounds.addAll(sounds);
            c.texts.addAll(texts);
            c.steps.addAll(steps);
            c.ruling = ruling;
            c.hour = hour;
            c.laid = laid;
            return c;
        }
    }

    /** What has to be done to take a STEP back: LAID, and what each HOUSE gets. */
    private static final class Step {
        int laid;
        int[] gets = new int[10];
    }

    int stone(int weight, int height, int vein, int bearers, int need) {
        int n = now.stones.size();
        if (n == 12 || weight < 1 || weight > 99 || height < 0 || height > 20 || vein < 0
            || vein > 99 || bearers < 0 || bearers >> n != 0 || need < 0
            || need > Integer.bitCount(bearers)) {
            return NONE;
        }
        now.stones.add(new int[] {weight, height, vein, bearers, need});
        return n;
    }

    boolean hour(int h) {
        if (h < 0 || h > 23) {
            return false;
        }
        now.hour = h;
        return true;
    }

    int house(int spare) {
        if (spare < 0 || spare > 99 || now.houses.size() == 10) {
            return NONE;
        }
        now.houses.add(new int[] {spare, 0});
        return now.houses.size() - 1;
    }

    private boolean isHouse(int h) {
        return h >= 0 && h < now.houses.size();
    }

    private boolean isStone(int s) {
        return s >= 0 && s < now.stones.size();
    }

    boolean touch(int one, int other, boolean is) {
        if (!isHouse(one) || !isHouse(other) || one == other) {
            return false;
        }
        now.near[one][other] = is;
        now.near[other][one] = is;
        return true;
    }

    int feed(int a, int b, int c, int d, int e) {
        if (tape.length() + 20 > 300) {
            return NONE;
        }
        for (int four : new int[] {a, b, c, d, e}) {
            tape.append((char) (four >>> 24 & 255)).append((char) (four >>> 16 & 255));
            tape.append((char) (four >>> 8 & 255)).append((char) (four & 255));
        }
        return tape.length();
    }

    int end(int n) {
        if (n < 0 || n > tape.length()) {
            return NONE;
        }
        tape.setLength(n);
        return n;
    }

    int text() {
        if (now.texts.size() == 4) {
            return NONE;
        }
        SlowText read = new SlowText(tape.toString());
        tape.setLength(0);
        fault = read.fault;
        place = read.place;
        if (fault != 0) {
            return NONE;
        }
        now.texts.add(read);
        return now.texts.size() - 1;
    }

    int fault(int what) {
        if (fault < 0) {
            return NONE;
        }
        return what == 0 ? fault : what == 1 ? place : NONE;
    }

    boolean by(int text) {
        if (text < -1 || text >= now.texts.size()) {
            return false;
        }
        now.ruling = text;
        return true;
    }

    private boolean borne(int stone, int set) {
        int[] s = now.stones.get(stone);
        int bearers = 0;
        for (int i = 0; i < 12; i++) {
            if ((s[3] & 1 << i) != 0 && (set & 1 << i) != 0) {
                bearers++;
            }
        }
        return bearers >= s[4];
    }

    private int[] valuesOf(int stone, int set, int quarry) {
        int[] s = now.stones.get(stone);
        int top = -1;
        int laid = 0;
        for (int i = 0; i < now.stones.size(); i++) {
            if ((set & 1 << i) != 0) {
                laid++;
                top = Math.max(top, now.stones.get(i)[1]);
            }
        }
        return new int[] {stone, s[0], s[1], s[2], laid, top, (now.hour + laid) % 24, quarry};
    }

    private int lift(int stone, int set) {
        int[] s = now.stones.get(stone);
        if (now.ruling == NONE || now.texts.get(now.ruling).lift == null) {
            return s[0] * s[1];
        }
        long v = now.texts.get(now.ruling).lift.value(valuesOf(stone, set, 0));
        return v < 0 ? 0 : v > 9999 ? 9999 : (int) v;
    }

    private boolean may(int stone, int set) {
        if ((set & 1 << stone) != 0 || !borne(stone, set)) {
            return false;
        }
        if (now.ruling == NONE || now.texts.get(now.ruling).may == null) {
            return true;
        }
        return now.texts.get(now.ruling).may.value(valuesOf(stone, set, 0)) == 1;
    }

    private int quarries(int stone) {
        int bits = 0;
        for (int q = 0; q < 6; q++) {
            if (now.ruling == NONE || now.texts.get(now.ruling).fits == null
                || now.texts.get(now.ruling).fits.value(valuesOf(stone, 0, q)) == 1) {
                bits |= 1 << q;
            }
        }
        return bits;
    }

    int of(int stone, int what) {
        if (!isStone(stone) || what < 0 || what > 4) {
            return NONE;
        }
        int others = now.laid & ~(1 << stone);
        int[] answers = {now.laid == others ? 0 : 1, may(stone, now.laid) ? 1 : 0,
            lift(stone, others), quarries(stone), borne(stone, others) ? 1 : 0};
        return answers[what];
    }

    boolean stands(int set) {
        if (set < 0 || set >> now.stones.size() != 0) {
            return false;
        }
        for (int i = 0; i < now.stones.size(); i++) {
            if ((set & 1 << i) != 0 && !borne(i, set)) {
                return false;
            }
        }
        return true;
    }

    private void addStep(Step step) {
        now.steps.add(step);
        if (now.steps.size() > 30) {
            now.steps.remove(0);
        }
    }

    private Step newStep() {
        Step step = new Step();
        step.laid = now.laid;
        return step;
    }

    int lay(int stone) {
        if (!isStone(stone) || !may(stone, now.laid)) {
            return NONE;
        }
        int lift = lift(stone, now.laid);
        addStep(newStep());
        now.laid |= 1 << stone;
        return lift;
    }

    int out(int stone) {
        if (!isStone(stone) || (now.laid & 1 << stone) == 0 || !stands(now.laid ^ 1 << stone)) {
            return NONE;
        }
        addStep(newStep());
        now.laid ^= 1 << stone;
        return Integer.bitCount(now.laid);
    }

    private boolean lends(int house, int to, Step step) {
        if (!isHouse(house) || !isHouse(to) || !now.near[house][to]
            || now.houses.get(house)[0] < 1) {
            return false;
        }
        for (int k = 0; k < 2; k++) {
            now.houses.get(house)[k]--;
            now.houses.get(to)[k]++;
        }
        step.gets[house]++;
        step.gets[to]--;
        return true;
    }

    int lend(int house, int to) {
        Step step = newStep();
        if (!lends(house, to, step)) {
            return NONE;
        }
        addStep(step);
        return now.houses.get(house)[0];
    }

    int played(int text) {
        if (text < 0 || text >= now.texts.size()) {
            return -2;
        }
        int i = 0;
        for (int[] c : now.texts.get(text).clauses) {
            int done = 0;
            if (c[0] == 'l') {
                done = lay(c[1]);
            } else if (c[0] == 'o') {
                done = out(c[1]);
            } else if (c[0] == 't') {
                done = lend(c[1], c[2]);
            }
            if (done == NONE) {
                return i;
            }
            i++;
        }
        return NONE;
    }

    int undo() {
        if (now.steps.isEmpty()) {
            return NONE;
        }
        Step step = now.steps.remove(now.steps.size() - 1);
        now.laid = step.laid;
        for (int i = 0; i < now.houses.size(); i++) {
            now.houses.get(i)[0] += step.gets[i];
            now.houses.get(i)[1] += step.gets[i];
        }
        return now.steps.size();
    }

    private int[] bestOrder;
    private int bestSet;
    private int bestLift;
    private long ofAll;

    private void walk(int set, int lift, int[] order) {
        if (order.length == now.stones.size()) {
            ofAll++;
        }
        if (isBetter(set, lift, order)) {
            bestSet = set;
            bestLift = lift;
            bestOrder = order;
        }
        for (int i = 0; i < now.stones.size(); i++) {
            if (may(i, set)) {
                int[] longer = java.util.Arrays.copyOf(order, order.length + 1);
                longer[order.length] = i;
                walk(set | 1 << i, lift + lift(i, set), longer);
            }
        }
    }

    private boolean isBetter(int set, int lift, int[] order) {
        if (bestOrder == null || order.length != bestOrder.length) {
            return bestOrder == null || order.length > bestOrder.length;
        }
        if (set != bestSet) {
            return set < bestSet;
        }
        if (lift != bestLift) {
            return lift < bestLift;
        }
        return java.util.Arrays.compare(order, bestOrder) < 0;
    }

    int least(int what) {
        bestOrder = null;
        walk(0, 0, new int[0]);
        if (what == -1) {
            return bestOrder.length;
        }
        if (what == -2) {
            return bestLift;
        }
        return what >= 0 && what < bestOrder.length ? bestOrder[what] : -3;
    }

    long orders() {
        ofAll = 0;
        bestOrder = null;
        walk(0, 0, new int[0]);
        return ofAll;
    }

    int sound(int low, int high) {
        if (low < 0 || high > 20 || low > high || now.sounds.size() == 8) {
            return NONE;
        }
        now.sounds.add(new int[] {low, high});
        return now.sounds.size();
    }

    int hush() {
        int were = now.sounds.size();
        now.sounds = new ArrayList<>();
        return were;
    }

    private long[] heard;

    private void hear(int set, int k) {
        if (k == now.sounds.size()) {
            heard[1] = heard[0] == 0 ? set : heard[1] & set;
            heard[0]++;
            heard[2] |= set;
            return;
        }
        int[] sound = now.sounds.get(k);
        for (int i = 0; i < now.stones.size(); i++) {
            int height = now.stones.get(i)[1];
            if (height >= sound[0] && height <= sound[1] && may(i, set)) {
                hear(set | 1 << i, k + 1);
            }
        }
    }

    long heard(int what) {
        if (what < 0 || what > 2) {
            return NONE;
        }
        heard = new long[3];
        hear(0, 0);
        return heard[what];
    }

    int with(int stone) {
        if (!isStone(stone) || (now.laid & 1 << stone) == 0) {
            return NONE;
        }
        for (int size = 1; size <= 12; size++) {
            for (int set = 0; set < 4096; set++) {
                if (Integer.bitCount(set) == size && (set & 1 << stone) != 0
                    && (set & ~now.laid) == 0 && stands(now.laid & ~set)) {
                    return set;
                }
            }
        }
        return NONE;
    }

    int houseOf(int house, int what) {
        if (!isHouse(house) || what < 0 || what > 2) {
            return -1000;
        }
        int touched = 0;
        for (boolean is : now.near[house]) {
            touched += is ? 1 : 0;
        }
        return what == 2 ? touched : now.houses.get(house)[what];
    }

    private List<Integer> bestRow;

    private void walkRow(List<Integer> row, int to) {
        int last = row.get(row.size() - 1);
        if (last == to) {
            // Rows are walked in the order of their HOUSES: of like lengths the first stays.
            if (bestRow == null || row.size() < bestRow.size()) {
                bestRow = new ArrayList<>(row);
            }
            return;
        }
        if (now.houses.get(last)[0] < 1) {
            return;
        }
        for (int h = 0; h < now.houses.size(); h++) {
            if (now.near[last][h] && !row.contains(h)) {
                row.add(h);
                walkRow(row, to);
                row.remove(row.size() - 1);
            }
        }
    }

    int row(int from, int to, int i) {
        if (!isHouse(from) || !isHouse(to)) {
            return NONE;
        }
        bestRow = null;
        List<Integer> row = new ArrayList<>();
        row.add(from);
        walkRow(row, to);
        if (bestRow == null) {
            return NONE;
        }
        if (i == NONE) {
            return bestRow.size();
        }
        return i >= 0 && i < bestRow.size() ? bestRow.get(i) : NONE;
    }

    int winter() {
        int[] owes = new int[now.houses.size()];
        for (int i = 0; i < owes.length; i++) {
            owes[i] = now.houses.get(i)[1];
        }
        return settle(owes, 0);
    }

    private int settle(int[] owes, int i) {
        int first = i;
        while (first < owes.length && owes[first] == 0) {
            first++;
        }
        if (first == owes.length) {
            return 0;
        }
        int best = 1000;
        for (int j = first + 1; j < owes.length; j++) {
            if (owes[j] > 0 && owes[first] < 0 || owes[j] < 0 && owes[first] > 0) {
                owes[j] += owes[first];
                best = Math.min(best, 1 + settle(owes, first + 1));
                owes[j] -= owes[first];
            }
        }
        return best;
    }

    private long x;

    private int draw(int m) {
        int d = (int) (x % m);
        x = (x * 181 + 37) % 30091;
        return d;
    }

    int town(int seed, int n) {
        if (seed < 0 || seed > 9999 || n < 1 || n > 99 || now.houses.isEmpty()) {
            return NONE;
        }
        Step step = newStep();
        x = seed * 9L + 4;
        int did = 0;
        for (int i = 0; i < n; i++) {
            int house = draw(now.houses.size());
            List<Integer> touched = new ArrayList<>();
            for (int h = 0; h < now.houses.size(); h++) {
                if (now.near[house][h]) {
                    touched.add(h);
                }
            }
            if (!touched.isEmpty() && lends(house, touched.get(draw(touched.size())), step)) {
                did++;
            }
        }
        addStep(step);
        return did;
    }

    int image() {
        kept = now.copy();
        return Integer.bitCount(now.laid);
    }

    int back() {
        now = kept.copy();
        return Integer.bitCount(now.laid);
    }

    int about(int what) {
        int[] first = {now.stones.size(), now.laid, now.hour, now.houses.size(), now.texts.size(),
            now.ruling, now.steps.size(), now.sounds.size(), tape.length()};
        if (what >= 0 && what <= 8) {
            return first[what];
        }
        if (isStone(what - 10)) {
            return now.stones.get(what - 10)[3];
        }
        if (isStone(what - 30)) {
            return now.stones.get(what - 30)[4];
        }
        return -2;
    }
}
