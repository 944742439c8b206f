import java.util.Arrays;

/** A tower that one mason builds from within, and the houses that lend stones to let him out. */
public final class WalledIn {
    public static final int NONE = -1;

    private static final int MOST_STONES = 12;
    private static final int MOST_HOUSES = 10;
    private static final int MOST_TEXTS = 4;
    private static final int MOST_BYTES = 300;
    private static final int MOST_CLAUSES = 24;
    private static final int MOST_STEPS = 30;
    private static final int MOST_SOUNDS = 8;
    private static final int MOST_OPEN = 8;
    private static final int MOST_NUMBER = 9999;
    private static final int MOST_LIFT = 9999;
    private static final int MOST_HEIGHT = 20;
    private static final int QUARRIES = 6;
    private static final int HOURS = 24;
    private static final int BYTES_FED = 20;

    // What a TOKEN is. A word's number is its place in WORDS; the NAMES come first, so that
    // the number of a NAME is also the place of its value when a law is asked.
    private static final String WORDS =
        "stone weight height vein laid top hour quarry lift may fits lay out lend to or and not ";
    private static final int NAME_STONE = 0;
    private static final int NAME_WEIGHT = 1;
    private static final int NAME_HEIGHT = 2;
    private static final int NAME_VEIN = 3;
    private static final int NAME_LAID = 4;
    private static final int NAME_TOP = 5;
    private static final int NAME_HOUR = 6;
    private static final int NAME_QUARRY = 7;
    private static final int NAMES = 8;
    private static final int LIFT = 8;
    private static final int MAY = 9;
    private static final int FITS = 10;
    private static final int LAY = 11;
    private static final int OUT = 12;
    private static final int LEND = 13;
    private static final int TO = 14;
    private static final int OR = 15;
    private static final int AND = 16;
    private static final int NOT = 17;

    // A sign's number is FIRST_SIGN and its place in SIGNS; the signs of two bytes come behind.
    private static final String SIGNS = "<>=#+-*/();";
    private static final int FIRST_SIGN = 20;
    private static final int LESS = 20;
    private static final int MORE = 21;
    private static final int LIKE = 22;
    private static final int UNLIKE = 23;
    private static final int PLUS = 24;
    private static final int MINUS = 25;
    private static final int TIMES = 26;
    private static final int OVER = 27;
    private static final int OPEN = 28;
    private static final int CLOSE = 29;
    private static final int SEMICOLON = 30;
    private static final int AT_MOST = 31;
    private static final int AT_LEAST = 32;
    // The - of one ONE: no TOKEN of its own, but another deed than MINUS.
    private static final int NEGATE = 33;
    private static final int NUMBER = 40;
    private static final int END = 41;
    private static final int NO_TOKEN = 42;

    // In the code of a law: a NUMBER below this, else a NAME or a deed by its kind.
    private static final int FIRST_DEED = MOST_NUMBER + 1;
    private static final int[] NO_CODE = {};

    private final State now;
    private final State kept;
    private final Tape tape;
    private final Reader reader;
    private final Law law;
    private final Plan plan;
    private final Debts debts;
    private boolean anyRead;
    private int latestFault;
    private int latestPlace;

    public WalledIn() {
        now = new State();
        kept = new State();
        tape = new Tape();
        reader = new Reader();
        law = new Law();
        plan = new Plan();
        debts = new Debts();
        anyRead = false;
        latestFault = 0;
        latestPlace = NONE;
    }

    public int stone(int weight, int height, int vein, int bearers, int need) {
        Stones stones = now.stones;
        boolean isRight = weight >= 1 && weight <= 99 && height >= 0 && height <= MOST_HEIGHT
            && vein >= 0 && vein <= 99 && stones.areTold(bearers)
            && need >= 0 && need <= Integer.bitCount(bearers);
        if (!isRight || stones.count >= MOST_STONES) {
            return NONE;
        }
        plan.forget();
        int number = stones.count;
        stones.weight[number] = weight;
        stones.height[number] = height;
        stones.vein[number] = vein;
        stones.bearers[number] = bearers;
        stones.need[number] = need;
        stones.count = number + 1;
        return number;
    }

    public boolean hour(int h) {
        if (h < 0 || h >= HOURS) {
            return false;
        }
        plan.forget();
        now.hour = h;
        return true;
    }

    public int house(int spare) {
        Houses houses = now.houses;
        if (spare < 0 || spare > 99 || houses.count >= MOST_HOUSES) {
            return NONE;
        }
        int number = houses.count;
        houses.spare[number] = spare;
        houses.owes[number] = 0;
        houses.near[number] = 0;
        houses.count = number + 1;
        return number;
    }

    public boolean touch(int one, int other, boolean is) {
        if (!now.houses.has(one) || !now.houses.has(other) || one == other) {
            return false;
        }
        now.houses.setNear(one, other, is);
        now.houses.setNear(other, one, is);
        return true;
    }

    public int feed(int a, int b, int c, int d, int e) {
        if (tape.length > MOST_BYTES - BYTES_FED) {
            return NONE;
        }
        tape.addFour(a);
        tape.addFour(b);
        tape.addFour(c);
        tape.addFour(d);
        tape.addFour(e);
        return tape.length;
    }

    public int end(int n) {
        if (n < 0 || n > tape.length) {
            return NONE;
        }
        tape.length = n;
        return n;
    }

    public int text() {
        if (now.textCount >= MOST_TEXTS) {
            return NONE;
        }
        reader.read(tape);
        anyRead = true;
        latestFault = reader.fault;
        latestPlace = reader.place;
        tape.length = 0;
        if (latestFault != 0) {
            return NONE;
        }
        int number = now.textCount;
        now.texts[number] = reader.newText();
        now.textCount = number + 1;
        return number;
    }

    public int fault(int what) {
        if (!anyRead) {
            return NONE;
        }
        if (what == 0) {
            return latestFault;
        }
        return what == 1 ? latestPlace : NONE;
    }

    public boolean by(int text) {
        if (text != NONE && !now.hasText(text)) {
            return false;
        }
        plan.forget();
        now.ruling = text;
        return true;
    }

    public int of(int stone, int what) {
        if (!now.stones.has(stone)) {
            return NONE;
        }
        switch (what) {
            case 0:
                return now.isLaid(stone) ? 1 : 0;
            case 1:
                return canBeLaid(stone) ? 1 : 0;
            case 2:
                return liftUponLaid(stone);
            case 3:
                return law.quarriesOf(now, stone);
            case 4:
                return now.stones.isBorne(stone, now.laid) ? 1 : 0;
            default:
                return NONE;
        }
    }

    public boolean stands(int set) {
        return now.stones.areTold(set) && now.stones.isStanding(set);
    }

    public int lay(int stone) {
        if (!now.stones.has(stone) || !canBeLaid(stone)) {
            return NONE;
        }
        int lift = liftUponLaid(stone);
        now.steps.keep(now.laid, now.houses);
        now.laid |= 1 << stone;
        return lift;
    }

    public int out(int stone) {
        if (!now.stones.has(stone) || !now.isLaid(stone)) {
            return NONE;
        }
        int others = now.laid & ~(1 << stone);
        if (!now.stones.isStanding(others)) {
            return NONE;
        }
        now.steps.keep(now.laid, now.houses);
        now.laid = others;
        return Integer.bitCount(others);
    }

    public int lend(int house, int to) {
        if (!now.houses.canLend(house, to)) {
            return NONE;
        }
        now.steps.keep(now.laid, now.houses);
        now.houses.moveOne(house, to);
        return now.houses.spare[house];
    }

    public int played(int text) {
        if (!now.hasText(text)) {
            return -2;
        }
        Text script = now.texts[text];
        for (int i = 0; i < script.clauses; i++) {
            if (!isPlayed(script, i)) {
                return i;
            }
        }
        return NONE;
    }

    public int undo() {
        if (now.steps.count == 0) {
            return NONE;
        }
        now.laid = now.steps.takeLatest(now.houses);
        return now.steps.count;
    }

    public int least(int what) {
        plan.prepare(now);
        if (what == NONE) {
            return plan.length;
        }
        if (what == -2) {
            return plan.lift;
        }
        return what >= 0 && what < plan.length ? plan.order[what] : -3;
    }

    public long orders() {
        plan.prepare(now);
        return plan.ordersOfAll;
    }

    public int sound(int low, int high) {
        if (low < 0 || high > MOST_HEIGHT || low > high || now.sounds.count >= MOST_SOUNDS) {
            return NONE;
        }
        now.sounds.add(low, high);
        return now.sounds.count;
    }

    public int hush() {
        int were = now.sounds.count;
        now.sounds.count = 0;
        return were;
    }

    public long heard(int what) {
        if (what < 0 || what > 2) {
            return NONE;
        }
        plan.prepare(now);
        plan.listen(now);
        if (what == 0) {
            return plan.heardOrders;
        }
        return what == 1 ? plan.heardInEach : plan.heardInSome;
    }

    public int with(int stone) {
        if (!now.stones.has(stone) || !now.isLaid(stone)) {
            return NONE;
        }
        int others = now.laid & ~(1 << stone);
        int best = now.laid;
        // The subsets of others, from the lowest on: of like ones the first that is found stays.
        int chosen = 0;
        for (int i = 0; i < 1 << MOST_STONES; i++) {
            boolean isFewer = Integer.bitCount(chosen) + 1 < Integer.bitCount(best);
            if (isFewer && now.stones.isStanding(others & ~chosen)) {
                best = chosen | 1 << stone;
            }
            if (chosen == others) {
                break;
            }
            chosen = (chosen - others) & others;
        }
        return best;
    }

    public int houseOf(int house, int what) {
        if (!now.houses.has(house)) {
            return -1000;
        }
        switch (what) {
            case 0:
                return now.houses.spare[house];
            case 1:
                return now.houses.owes[house];
            case 2:
                return Integer.bitCount(now.houses.near[house]);
            default:
                return -1000;
        }
    }

    public int row(int from, int to, int i) {
        if (!now.houses.has(from) || !now.houses.has(to)) {
            return NONE;
        }
        int length = now.houses.rowLength(from, to);
        if (length == 0) {
            return NONE;
        }
        if (i == NONE) {
            return length;
        }
        return i >= 0 && i < length ? now.houses.rowAt(from, length, i) : NONE;
    }

    public int winter() {
        return debts.fewestReturns(now.houses);
    }

    public int town(int seed, int n) {
        if (seed < 0 || seed > 9999 || n < 1 || n > 99 || now.houses.count == 0) {
            return NONE;
        }
        now.steps.keep(now.laid, now.houses);
        return now.houses.lendByDraws(seed, n);
    }

    public int image() {
        kept.become(now);
        return Integer.bitCount(now.laid);
    }

    public int back() {
        plan.forget();
        now.become(kept);
        return Integer.bitCount(now.laid);
    }

    public int about(int what) {
        switch (what) {
            case 0:
                return now.stones.count;
            case 1:
                return now.laid;
            case 2:
                return now.hour;
            case 3:
                return now.houses.count;
            case 4:
                return now.textCount;
            case 5:
                return now.ruling;
            case 6:
                return now.steps.count;
            case 7:
                return now.sounds.count;
            case 8:
                return tape.length;
            default:
                return aboutStone(what);
        }
    }

    private int aboutStone(int what) {
        if (what >= 10 && what < 10 + now.stones.count) {
            return now.stones.bearers[what - 10];
        }
        if (what >= 30 && what < 30 + now.stones.count) {
            return now.stones.need[what - 30];
        }
        return -2;
    }

    private boolean canBeLaid(int stone) {
        return !now.isLaid(stone) && now.stones.isBorne(stone, now.laid)
            && law.isLet(now, stone, Integer.bitCount(now.laid), now.stones.topOf(now.laid));
    }

    private int liftUponLaid(int stone) {
        int set = now.laid & ~(1 << stone);
        return law.liftOf(now, stone, Integer.bitCount(set), now.stones.topOf(set));
    }

    private boolean isPlayed(Text script, int clause) {
        int first = script.firstOf(clause);
        switch (script.deedOf(clause)) {
            case LAY:
                return lay(first) != NONE;
            case OUT:
                return out(first) != NONE;
            case LEND:
                return lend(first, script.secondOf(clause)) != NONE;
            default:
                return true;
        }
    }

    /** All that an IMAGE keeps. */
    private static final class State {
        private final Stones stones = new Stones();
        private final Houses houses = new Houses();
        private final Sounds sounds = new Sounds();
        private final Steps steps = new Steps();
        private final Text noText = new Text(NO_CODE, NO_CODE, NO_CODE, NO_CODE);
        private final Text[] texts = {noText, noText, noText, noText};
        private int textCount = 0;
        private int ruling = NONE;
        private int hour = 0;
        private int laid = 0;

        private boolean isLaid(int stone) {
            return (laid >> stone & 1) == 1;
        }

        private boolean hasText(int text) {
            return text >= 0 && text < textCount && text < MOST_TEXTS;
        }

        private Text rule() {
            return hasText(ruling) ? texts[ruling] : noText;
        }

        private void become(State other) {
            stones.takeAll(other.stones);
            houses.takeAll(other.houses);
            sounds.takeAll(other.sounds);
            steps.takeAll(other.steps);
            for (int i = 0; i < MOST_TEXTS; i++) {
                texts[i] = other.texts[i];
            }
            textCount = other.textCount;
            ruling = other.ruling;
            hour = other.hour;
            laid = other.laid;
        }
    }

    private static final class Stones {
        private final int[] weight = new int[MOST_STONES];
        private final int[] height = new int[MOST_STONES];
        private final int[] vein = new int[MOST_STONES];
        private final int[] bearers = new int[MOST_STONES];
        private final int[] need = new int[MOST_STONES];
        private int count = 0;

        private boolean has(int stone) {
            return stone >= 0 && stone < count && stone < MOST_STONES;
        }

        private int all() {
            return (1 << count) - 1;
        }

        private boolean areTold(int set) {
            return set >= 0 && set <= all();
        }

        private boolean isBorne(int stone, int set) {
            return Integer.bitCount(bearers[stone] & set) >= need[stone];
        }

        private boolean isStanding(int set) {
            for (int i = 0; i < count; i++) {
                if ((set >> i & 1) == 1 && !isBorne(i, set)) {
                    return false;
                }
            }
            return true;
        }

        private int topOf(int set) {
            int top = -1;
            for (int i = 0; i < count; i++) {
                if ((set >> i & 1) == 1) {
                    top = Math.max(top, height[i]);
                }
            }
            return top;
        }

        private void takeAll(Stones other) {
            System.arraycopy(other.weight, 0, weight, 0, MOST_STONES);
            System.arraycopy(other.height, 0, height, 0, MOST_STONES);
            System.arraycopy(other.vein, 0, vein, 0, MOST_STONES);
            System.arraycopy(other.bearers, 0, bearers, 0, MOST_STONES);
            System.arraycopy(other.need, 0, need, 0, MOST_STONES);
            count = other.count;
        }
    }

    private static final class Sounds {
        private final int[] low = new int[MOST_SOUNDS];
        private final int[] high = new int[MOST_SOUNDS];
        private int count = 0;

        private void add(int lowest, int highest) {
            if (count < MOST_SOUNDS) {
                low[count] = lowest;
                high[count] = highest;
                count++;
            }
        }

        private boolean isFit(int place, int height) {
            return place >= 0 && place < count && height >= low[place] && height <= high[place];
        }

        private void takeAll(Sounds other) {
            System.arraycopy(other.low, 0, low, 0, MOST_SOUNDS);
            System.arraycopy(other.high, 0, high, 0, MOST_SOUNDS);
            count = other.count;
        }
    }

    private static final class Houses {
        private final int[] spare = new int[MOST_HOUSES];
        private final int[] owes = new int[MOST_HOUSES];
        private final int[] near = new int[MOST_HOUSES];
        // At k: the HOUSES from which k HOUSES more lead to the end of the ROW that was asked for.
        private final int[] layers = new int[MOST_HOUSES];
        private int count = 0;

        private boolean has(int house) {
            return house >= 0 && house < count && house < MOST_HOUSES;
        }

        private void setNear(int house, int other, boolean is) {
            if (is) {
                near[house] |= 1 << other;
            } else {
                near[house] &= ~(1 << other);
            }
        }

        private boolean canLend(int house, int to) {
            return has(house) && has(to) && (near[house] >> to & 1) == 1 && spare[house] >= 1;
        }

        private void moveOne(int house, int to) {
            spare[house]--;
            owes[house]--;
            spare[to]++;
            owes[to]++;
        }

        /** How many HOUSES the ROW has; 0, if there is none. */
        private int rowLength(int from, int to) {
            int layer = 1 << to;
            int seen = layer;
            int length = 1;
            layers[0] = layer;
            while (length < MOST_HOUSES && (layer >> from & 1) == 0) {
                layer = lendersTo(layer) & ~seen;
                seen |= layer;
                layers[length] = layer;
                length++;
            }
            return (layer >> from & 1) == 1 ? length : 0;
        }

        private int lendersTo(int set) {
            int lenders = 0;
            for (int i = 0; i < count; i++) {
                if (spare[i] >= 1 && (near[i] & set) != 0) {
                    lenders |= 1 << i;
                }
            }
            return lenders;
        }

        /** The HOUSE at place i of the ROW whose length was just found. */
        private int rowAt(int from, int length, int i) {
            int house = from;
            for (int k = length - 2; k >= length - 1 - i; k--) {
                if (!has(house) || k < 0 || k >= MOST_HOUSES) {
                    return NONE;
                }
                house = Integer.numberOfTrailingZeros(near[house] & layers[k]);
            }
            return has(house) ? house : NONE;
        }

        /** How many of the n lendings of a TOWN are done. */
        private int lendByDraws(int seed, int n) {
            int x = seed * 9 + 4;
            int done = 0;
            for (int i = 0; i < n && count > 0; i++) {
                int house = x % count;
                x = nextDraw(x);
                int touched = Integer.bitCount(near[house]);
                if (touched > 0) {
                    int to = nearAt(house, x % touched);
                    x = nextDraw(x);
                    if (canLend(house, to)) {
                        moveOne(house, to);
                        done++;
                    }
                }
            }
            return done;
        }

        private int nextDraw(int x) {
            return (x * 181 + 37) % 30091;
        }

        private int nearAt(int house, int place) {
            int left = near[house];
            for (int i = 0; i < place; i++) {
                left &= left - 1;
            }
            return Integer.numberOfTrailingZeros(left);
        }

        private void takeAll(Houses other) {
            System.arraycopy(other.spare, 0, spare, 0, MOST_HOUSES);
            System.arraycopy(other.owes, 0, owes, 0, MOST_HOUSES);
            System.arraycopy(other.near, 0, near, 0, MOST_HOUSES);
            count = other.count;
        }
    }

    /** What was ahead of each of the latest STEPS, in a ring of rows. */
    private static final class Steps {
        private static final int SPARE_AT = 2;
        private static final int OWES_AT = SPARE_AT + MOST_HOUSES;
        private static final int WIDTH = OWES_AT + MOST_HOUSES;

        private final int[] rows = new int[MOST_STEPS * WIDTH];
        private int first = 0;
        private int count = 0;

        private void keep(int laid, Houses houses) {
            if (count >= MOST_STEPS) {
                first = (first + 1) % MOST_STEPS;
                count = MOST_STEPS - 1;
            }
            int at = (first + count) % MOST_STEPS * WIDTH;
            rows[at] = laid;
            rows[at + 1] = houses.count;
            System.arraycopy(houses.spare, 0, rows, at + SPARE_AT, MOST_HOUSES);
            System.arraycopy(houses.owes, 0, rows, at + OWES_AT, MOST_HOUSES);
            count++;
        }

        /** Puts the HOUSES back as they were ahead of the latest STEP; answers LAID of then. */
        private int takeLatest(Houses houses) {
            count--;
            int at = (first + count) % MOST_STEPS * WIDTH;
            // A HOUSE told since has no place in the row: the STEPS behind, all taken back by
            // now, have left it as it was told.
            int told = Math.min(rows[at + 1], MOST_HOUSES);
            System.arraycopy(rows, at + SPARE_AT, houses.spare, 0, told);
            System.arraycopy(rows, at + OWES_AT, houses.owes, 0, told);
            return rows[at];
        }

        private void takeAll(Steps other) {
            System.arraycopy(other.rows, 0, rows, 0, rows.length);
            first = other.first;
            count = other.count;
        }
    }

    /** The fewest RETURNS: one less than it has HOUSES for each group whose debts even out. */
    private static final class Debts {
        private final int[] sums = new int[1 << MOST_HOUSES];
        private final int[] groups = new int[1 << MOST_HOUSES];

        private int fewestReturns(Houses houses) {
            int all = (1 << houses.count) - 1;
            sums[0] = 0;
            groups[0] = 0;
            for (int set = 1; set <= all; set++) {
                int lowest = Integer.numberOfTrailingZeros(set);
                sums[set] = sums[set & (set - 1)] + houses.owes[lowest];
                groups[set] = mostWithoutOne(set, houses.count) + (sums[set] == 0 ? 1 : 0);
            }
            return houses.count - groups[all];
        }

        private int mostWithoutOne(int set, int count) {
            int most = 0;
            for (int i = 0; i < count; i++) {
                if ((set >> i & 1) == 1) {
                    most = Math.max(most, groups[set & ~(1 << i)]);
                }
            }
            return most;
        }
    }

    /** A TEXT that was read: its laws as code (empty: not told), its clauses as a script. */
    private static final class Text {
        private static final int WIDTH = 3;

        private final int[] lift;
        private final int[] may;
        private final int[] fits;
        private final int[] script;
        private final int clauses;

        private Text(int[] lift, int[] may, int[] fits, int[] script) {
            this.lift = lift;
            this.may = may;
            this.fits = fits;
            this.script = script;
            this.clauses = script.length / WIDTH;
        }

        private int deedOf(int clause) {
            return partOf(clause, 0);
        }

        private int firstOf(int clause) {
            return partOf(clause, 1);
        }

        private int secondOf(int clause) {
            return partOf(clause, 2);
        }

        private int partOf(int clause, int part) {
            return clause >= 0 && clause < clauses ? script[clause * WIDTH + part] : NONE;
        }
    }

    /** The bytes that were fed, and their TOKENS, of which a reader stands at one. */
    private static final class Tape {
        private static final int MOST_TOKENS = MOST_BYTES + 1;

        private final byte[] bytes = new byte[MOST_BYTES];
        private final int[] kinds = new int[MOST_TOKENS];
        private final int[] starts = new int[MOST_TOKENS];
        private final int[] numbers = new int[MOST_TOKENS];
        private int length = 0;
        private int at = 0;
        private int tokens = 0;
        private int current = 0;

        private void addFour(int four) {
            for (int shift = 24; shift >= 0 && length < MOST_BYTES; shift -= 8) {
                bytes[length] = (byte) (four >>> shift);
                length++;
            }
        }

        private int kind() {
            return kinds[current];
        }

        private int start() {
            return starts[current];
        }

        private int number() {
            return numbers[current];
        }

        private void advance() {
            if (current < tokens - 1) {
                current++;
            }
        }

        /** Finds all TOKENS, the end being the last one, and goes to the first. */
        private void split() {
            at = 0;
            tokens = 0;
            current = 0;
            skipBlanks();
            while (at < length && tokens < MOST_TOKENS - 1) {
                int start = at;
                numbers[tokens] = 0;
                kinds[tokens] = takeToken(byteAt(start));
                starts[tokens] = start;
                tokens++;
                skipBlanks();
            }
            kinds[tokens] = END;
            starts[tokens] = length;
            numbers[tokens] = 0;
            tokens++;
        }

        private void skipBlanks() {
            while (at < length && (byteAt(at) == 32 || byteAt(at) == 10)) {
                at++;
            }
        }

        private int byteAt(int place) {
            return place >= 0 && place < length && place < MOST_BYTES ? bytes[place] & 255 : NONE;
        }

        private boolean isLetter(int c) {
            return c >= 'a' && c <= 'z' || c >= 'A' && c <= 'Z';
        }

        private boolean isDigit(int c) {
            return c >= '0' && c <= '9';
        }

        /** Goes behind the TOKEN that begins with that byte; answers its kind. */
        private int takeToken(int first) {
            if (isLetter(first)) {
                return takeWord();
            }
            if (isDigit(first)) {
                numbers[tokens] = takeDigits();
                return NUMBER;
            }
            return takeMark(first);
        }

        private int takeWord() {
            int from = at;
            while (at < length && isLetter(byteAt(at))) {
                at++;
            }
            return wordFrom(from, at);
        }

        /** The place among WORDS of what stands from one byte to ahead of another. */
        private int wordFrom(int from, int to) {
            int word = 0;
            int next = from;
            boolean isSame = true;
            for (int i = 0; i < WORDS.length(); i++) {
                char c = WORDS.charAt(i);
                if (c != ' ') {
                    isSame = isSame && next < to && byteAt(next) == c;
                    next++;
                } else if (isSame && next == to) {
                    return word;
                } else {
                    word++;
                    next = from;
                    isSame = true;
                }
            }
            return NO_TOKEN;
        }

        private int takeDigits() {
            int value = 0;
            while (at < length && isDigit(byteAt(at))) {
                // Beyond the greatest NUMBER any value will do: 300 digits must not run over.
                value = Math.min(value * 10 + byteAt(at) - '0', MOST_NUMBER + 1);
                at++;
            }
            return value;
        }

        private int takeMark(int first) {
            int place = SIGNS.indexOf((char) first);
            at++;
            if (place < 0) {
                return NO_TOKEN;
            }
            int kind = FIRST_SIGN + place;
            if ((kind == LESS || kind == MORE) && byteAt(at) == '=') {
                at++;
                return kind == LESS ? AT_MOST : AT_LEAST;
            }
            return kind;
        }
    }

    /**
     * Reads a TEXT: a law becomes code in which a deed stands behind what it is done to,
     * so that neither reading it nor asking it needs recursion.
     */
    private static final class Reader {
        private static final int CANT_STAND = 1;
        private static final int TOO_GREAT = 2;
        private static final int TOO_DEEP = 3;
        private static final int TWICE = 4;
        private static final int NOT_ITS_NAME = 5;
        private static final int TOO_MANY = 6;
        // Deeds that wait at once: five at the outmost, 8 that are open, two more within each.
        private static final int MOST_WAITING = 40;

        private final int[] script = new int[MOST_CLAUSES * Text.WIDTH];
        private final int[] code = new int[MOST_BYTES];
        private final int[] waiting = new int[MOST_WAITING];
        private int[] lift = NO_CODE;
        private int[] may = NO_CODE;
        private int[] fits = NO_CODE;
        private int clauses = 0;
        private int codeLength = 0;
        private int waitingCount = 0;
        private int fault = 0;
        private int place = NONE;
        private int clause = 0;
        private int open = 0;
        private int brackets = 0;
        private boolean wantsOne = true;
        private boolean isAskStart = false;
        private boolean isCompared = false;

        private void read(Tape tape) {
            lift = NO_CODE;
            may = NO_CODE;
            fits = NO_CODE;
            clauses = 0;
            fault = 0;
            place = NONE;
            tape.split();
            for (int i = 0; i <= MOST_CLAUSES && fault == 0 && tape.kind() != END; i++) {
                readClause(tape);
            }
        }

        /** What was read, if it had no FAULT. */
        private Text newText() {
            return new Text(lift, may, fits, Arrays.copyOf(script, clauses * Text.WIDTH));
        }

        private void fail(Tape tape, int what) {
            fault = what;
            place = tape.start();
        }

        private void readClause(Tape tape) {
            clause = tape.kind();
            if (clause < LIFT || clause > LEND) {
                fail(tape, CANT_STAND);
            } else if (isTold(clause)) {
                fail(tape, TWICE);
            } else if (clauses >= MOST_CLAUSES) {
                fail(tape, TOO_MANY);
            } else {
                tape.advance();
                if (clause <= FITS) {
                    readLaw(tape);
                } else {
                    readDeed(tape);
                }
            }
        }

        private boolean isTold(int law) {
            return law == LIFT && lift.length > 0 || law == MAY && may.length > 0
                || law == FITS && fits.length > 0;
        }

        private void addClause(int first, int second) {
            if (clauses < MOST_CLAUSES) {
                script[clauses * Text.WIDTH] = clause;
                script[clauses * Text.WIDTH + 1] = first;
                script[clauses * Text.WIDTH + 2] = second;
                clauses++;
            }
        }

        private void readDeed(Tape tape) {
            int most = clause == LEND ? MOST_HOUSES - 1 : MOST_STONES - 1;
            int first = readNumber(tape, most);
            int second = NONE;
            if (clause == LEND) {
                pass(tape, TO);
                second = readNumber(tape, most);
            }
            pass(tape, SEMICOLON);
            if (fault == 0) {
                addClause(first, second);
            }
        }

        private int readNumber(Tape tape, int most) {
            int number = tape.number();
            if (fault == 0 && tape.kind() == NUMBER && number > most) {
                fail(tape, TOO_GREAT);
            }
            pass(tape, NUMBER);
            return number;
        }

        private void pass(Tape tape, int kind) {
            if (fault == 0 && tape.kind() != kind) {
                fail(tape, CANT_STAND);
            } else if (fault == 0) {
                tape.advance();
            }
        }

        private void readLaw(Tape tape) {
            codeLength = 0;
            waitingCount = 0;
            open = 0;
            brackets = 0;
            wantsOne = true;
            isAskStart = clause != LIFT;
            isCompared = false;
            for (int i = 0; i <= MOST_BYTES && fault == 0 && !isAtEnd(tape.kind()); i++) {
                int what = wantsOne ? takeOne(tape) : takeSign(tape.kind());
                if (what != 0) {
                    fail(tape, what);
                } else {
                    tape.advance();
                }
            }
            if (fault == 0) {
                settle(OR);
                keepLaw();
                addClause(NONE, NONE);
                tape.advance();
            }
        }

        private boolean isAtEnd(int kind) {
            return kind == SEMICOLON && !wantsOne && brackets == 0
                && (isCompared || clause == LIFT);
        }

        private void keepLaw() {
            int[] law = Arrays.copyOf(code, codeLength);
            if (clause == LIFT) {
                lift = law;
            } else if (clause == MAY) {
                may = law;
            } else {
                fits = law;
            }
        }

        /** Where a ONE or an ASK begins: the FAULT of the TOKEN there, or 0. */
        private int takeOne(Tape tape) {
            int kind = tape.kind();
            if (kind == NOT && isAskStart) {
                return openOne(NOT);
            }
            isAskStart = false;
            if (kind == NUMBER) {
                wantsOne = false;
                addCode(tape.number());
                return tape.number() > MOST_NUMBER ? TOO_GREAT : 0;
            }
            if (kind < NAMES) {
                wantsOne = false;
                addCode(FIRST_DEED + kind);
                return isOfClause(kind) ? 0 : NOT_ITS_NAME;
            }
            if (kind == OPEN) {
                brackets++;
                return openOne(OPEN);
            }
            return kind == MINUS ? openOne(NEGATE) : CANT_STAND;
        }

        private boolean isOfClause(int name) {
            if (name == NAME_QUARRY) {
                return clause == FITS;
            }
            return name <= NAME_VEIN || clause != FITS;
        }

        private int openOne(int kind) {
            if (open >= MOST_OPEN) {
                return TOO_DEEP;
            }
            open++;
            putOff(kind);
            return 0;
        }

        /** Behind a ONE: the FAULT of the TOKEN there, or 0. */
        private int takeSign(int kind) {
            boolean isOutside = brackets == 0 && clause != LIFT;
            if (kind >= PLUS && kind <= OVER) {
                join(kind);
                return 0;
            }
            if (kind == CLOSE && brackets > 0) {
                brackets--;
                settle(OR);
                endWait();
                return 0;
            }
            if (isComparison(kind) && isOutside && !isCompared) {
                isCompared = true;
                join(kind);
                return 0;
            }
            if ((kind == AND || kind == OR) && isOutside && isCompared) {
                isCompared = false;
                isAskStart = true;
                join(kind);
                return 0;
            }
            return CANT_STAND;
        }

        private boolean isComparison(int kind) {
            return kind >= LESS && kind <= UNLIKE || kind == AT_MOST || kind == AT_LEAST;
        }

        private void join(int kind) {
            settle(kind);
            putOff(kind);
            wantsOne = true;
        }

        /** Does what waits, back to a bracket, and binds as closely as that kind or closer. */
        private void settle(int kind) {
            int least = closeness(kind);
            for (int i = waitingCount - 1; i >= 0 && closeness(waiting[i]) >= least; i--) {
                addCode(FIRST_DEED + waiting[i]);
                endWait();
            }
        }

        private int closeness(int kind) {
            switch (kind) {
                case OPEN:
                    return 0;
                case OR:
                    return 1;
                case AND:
                    return 2;
                case NOT:
                    return 3;
                case PLUS:
                case MINUS:
                    return 5;
                case TIMES:
                case OVER:
                    return 6;
                case NEGATE:
                    return 7;
                default:
                    return 4;
            }
        }

        private void putOff(int kind) {
            if (waitingCount < MOST_WAITING) {
                waiting[waitingCount] = kind;
                waitingCount++;
            }
        }

        private void endWait() {
            if (waitingCount > 0) {
                waitingCount--;
                int kind = waiting[waitingCount];
                if (kind == OPEN || kind == NOT || kind == NEGATE) {
                    open--;
                }
            }
        }

        private void addCode(int value) {
            if (codeLength < MOST_BYTES) {
                code[codeLength] = value;
                codeLength++;
            }
        }
    }

    /** Asks THE TEXT about a STONE, upon a set of so many with such a top. */
    private static final class Law {
        private static final int MOST_PILED = 40;
        private static final int BOUND = 1000000;

        private final int[] values = new int[NAMES];
        private final int[] pile = new int[MOST_PILED];

        private int liftOf(State state, int stone, int laid, int top) {
            int[] code = state.rule().lift;
            if (code.length == 0) {
                return state.stones.weight[stone] * state.stones.height[stone];
            }
            setStone(state.stones, stone);
            setPlace(state.hour, laid, top);
            return Math.max(0, Math.min(MOST_LIFT, run(code)));
        }

        /** Whether may is so. */
        private boolean isLet(State state, int stone, int laid, int top) {
            int[] code = state.rule().may;
            if (code.length == 0) {
                return true;
            }
            setStone(state.stones, stone);
            setPlace(state.hour, laid, top);
            return run(code) != 0;
        }

        private int quarriesOf(State state, int stone) {
            int[] code = state.rule().fits;
            if (code.length == 0) {
                return (1 << QUARRIES) - 1;
            }
            setStone(state.stones, stone);
            int set = 0;
            for (int quarry = 0; quarry < QUARRIES; quarry++) {
                values[NAME_QUARRY] = quarry;
                if (run(code) != 0) {
                    set |= 1 << quarry;
                }
            }
            return set;
        }

        private void setStone(Stones stones, int stone) {
            values[NAME_STONE] = stone;
            values[NAME_WEIGHT] = stones.weight[stone];
            values[NAME_HEIGHT] = stones.height[stone];
            values[NAME_VEIN] = stones.vein[stone];
        }

        private void setPlace(int hour, int laid, int top) {
            values[NAME_LAID] = laid;
            values[NAME_TOP] = top;
            values[NAME_HOUR] = (hour + laid) % HOURS;
        }

        private int run(int[] code) {
            int piled = 0;
            for (int i = 0; i < code.length; i++) {
                int deed = code[i] - FIRST_DEED;
                if (deed < NAMES) {
                    if (piled < MOST_PILED) {
                        pile[piled] = deed < 0 ? code[i] : values[deed];
                        piled++;
                    }
                } else if (deed == NOT || deed == NEGATE) {
                    if (piled >= 1) {
                        int only = pile[piled - 1];
                        pile[piled - 1] = deed == NOT ? 1 - only : -only;
                    }
                } else if (piled >= 2) {
                    piled--;
                    long value = outcome(deed, pile[piled - 1], pile[piled]);
                    pile[piled - 1] = (int) Math.max(-BOUND, Math.min(BOUND, value));
                }
            }
            return piled >= 1 ? pile[piled - 1] : 0;
        }

        private long outcome(int deed, long a, long b) {
            switch (deed) {
                case PLUS:
                    return a + b;
                case MINUS:
                    return a - b;
                case TIMES:
                    return a * b;
                case OVER:
                    return b == 0 ? 0 : a / b;
                case LESS:
                    return a < b ? 1 : 0;
                case AT_MOST:
                    return a <= b ? 1 : 0;
                case MORE:
                    return a > b ? 1 : 0;
                case AT_LEAST:
                    return a >= b ? 1 : 0;
                case LIKE:
                    return a == b ? 1 : 0;
                case UNLIKE:
                    return a != b ? 1 : 0;
                case AND:
                    return a & b;
                case OR:
                    return a | b;
                default:
                    return 0;
            }
        }
    }

    /** ORDERS over all sets of STONES: how many there are, the LEAST, and those that fit SOUNDS. */
    private static final class Plan {
        private static final int SETS = 1 << MOST_STONES;
        private static final int TOPS = MOST_HEIGHT + 2;
        private static final int UNKNOWN = -2;
        private static final int FAR = 1000000;

        // What the law says of a STONE hangs on how many are laid and their top alone, not on the
        // set: so few answers are kept that each is asked for once. NONE: it may not be laid.
        private final int[] lifts = new int[MOST_STONES * MOST_STONES * TOPS];
        // Of each set first how many ORDERS it has (countWays), then the least LIFT that is left
        // from it on (measure): one row for both, as a new object should take little room.
        private final int[] ofSet = new int[SETS];
        private final int[] order = new int[MOST_STONES];
        private final Law law = new Law();
        private boolean isKnown = false;
        private int length = 0;
        private int lift = 0;
        private long ordersOfAll = 0;
        private long heardOrders = 0;
        private int heardInEach = 0;
        private int heardInSome = 0;

        /** To be told whenever STONES, HOUR or THE TEXT become others. */
        private void forget() {
            isKnown = false;
        }

        private void prepare(State state) {
            if (isKnown) {
                return;
            }
            Arrays.fill(lifts, UNKNOWN);
            countWays(state, state.stones.count, false);
            ordersOfAll = ofSet[state.stones.all()];
            int target = lowestOfMost(state.stones.all());
            measure(state, target);
            choose(state, target);
            isKnown = true;
        }

        /** In ofSet: how many ORDERS of just that set there are, up to so many STONES. */
        private void countWays(State state, int most, boolean bySounds) {
            Arrays.fill(ofSet, 0);
            ofSet[0] = 1;
            int all = state.stones.all();
            for (int set = 0; set < SETS && set <= all; set++) {
                if (ofSet[set] != 0 && Integer.bitCount(set) < most) {
                    spread(state, set, bySounds);
                }
            }
        }

        private void spread(State state, int set, boolean bySounds) {
            Stones stones = state.stones;
            int laid = Integer.bitCount(set);
            int top = stones.topOf(set);
            for (int i = 0; i < stones.count; i++) {
                boolean isNext = (set >> i & 1) == 0
                    && (!bySounds || state.sounds.isFit(laid, stones.height[i]));
                if (isNext && liftUpon(state, i, set, top) != NONE) {
                    ofSet[set | 1 << i] += ofSet[set];
                }
            }
        }

        /** The LIFT of a STONE upon a set that lacks it; NONE, if it may not be laid there. */
        private int liftUpon(State state, int stone, int set, int top) {
            if (!state.stones.isBorne(stone, set)) {
                return NONE;
            }
            int laid = Integer.bitCount(set);
            int at = (stone * MOST_STONES + laid) * TOPS + top + 1;
            if (at < 0 || at >= lifts.length) {
                return NONE;
            }
            if (lifts[at] == UNKNOWN) {
                boolean isLet = law.isLet(state, stone, laid, top);
                lifts[at] = isLet ? law.liftOf(state, stone, laid, top) : NONE;
            }
            return lifts[at];
        }

        private int lowestOfMost(int all) {
            int best = 0;
            for (int set = 1; set < SETS && set <= all; set++) {
                if (ofSet[set] != 0 && Integer.bitCount(set) > Integer.bitCount(best)) {
                    best = set;
                }
            }
            return best;
        }

        /** In ofSet: the least LIFT that is left from a set to the target; FAR: no way leads. */
        private void measure(State state, int target) {
            ofSet[target] = 0;
            for (int set = target - 1; set >= 0; set--) {
                boolean isOnTheWay = (set & ~target) == 0 && ofSet[set] != 0;
                ofSet[set] = isOnTheWay ? leastAhead(state, set, target) : FAR;
            }
        }

        private int leastAhead(State state, int set, int target) {
            int top = state.stones.topOf(set);
            int best = FAR;
            for (int i = 0; i < state.stones.count; i++) {
                if (((target & ~set) >> i & 1) == 1) {
                    int step = liftUpon(state, i, set, top);
                    if (step != NONE) {
                        best = Math.min(best, step + ofSet[set | 1 << i]);
                    }
                }
            }
            return best;
        }

        private void choose(State state, int target) {
            lift = ofSet[0];
            length = Integer.bitCount(target);
            int set = 0;
            for (int place = 0; place < length && place < MOST_STONES; place++) {
                int next = firstOfLeast(state, set, target);
                order[place] = next;
                set |= 1 << next;
            }
        }

        private int firstOfLeast(State state, int set, int target) {
            int top = state.stones.topOf(set);
            for (int i = 0; i < state.stones.count; i++) {
                if (((target & ~set) >> i & 1) == 1) {
                    int step = liftUpon(state, i, set, top);
                    if (step != NONE && step + ofSet[set | 1 << i] == ofSet[set]) {
                        return i;
                    }
                }
            }
            return 0;
        }

        private void listen(State state) {
            int most = state.sounds.count;
            int all = state.stones.all();
            countWays(state, most, true);
            heardOrders = 0;
            heardInEach = all;
            heardInSome = 0;
            for (int set = 0; set < SETS && set <= all; set++) {
                if (ofSet[set] != 0 && Integer.bitCount(set) == most) {
                    heardOrders += ofSet[set];
                    heardInEach &= set;
                    heardInSome |= set;
                }
            }
            if (heardOrders == 0) {
                heardInEach = 0;
            }
        }
    }
}
