import java.util.Arrays;

/**
 * A pack of cells in a row, watched second by second. ../shared/DOC.md says what each call does;
 * the words in its capitals are the names used here.
 */
public final class PackWatch {
    public static final int NONE = -1;

    private static final int NOTHING = -1000000000;
    private static final int NO_LINE = -2;
    private static final int NO_BOUND = 0x7fffffff;
    private static final int NO_OHMS = -1000000;

    private static final int CELLS_MOST = 16;
    private static final int STEPS_MOST = 20;
    private static final int TIME_MOST = 9999;
    private static final int RUN_MOST = 300;
    private static final int TRIAL_MOST = 60;
    private static final int FAR_MOST = 2000;
    private static final int CURRENT_MOST = 99999;
    private static final int HOUR_COUNT = 24;

    private static final int OPEN = 0;
    private static final int PRECHARGE = 1;
    private static final int CLOSED = 2;

    private static final int MINUS_BIT = 1;
    private static final int PRE_BIT = 2;
    private static final int PLUS_BIT = 4;
    private static final int WELDED = 1;
    private static final int DEAD = 2;

    private static final int INTO = 0;
    private static final int OUT_OF = 1;

    private static final int SHUNTS = 1;
    private static final int SHUTTLES = 2;

    private static final int FAULT_COUNT = 11;
    private static final int FAULT_HIGH = 0;
    private static final int FAULT_LOW = 1;
    private static final int FAULT_HOT = 2;
    private static final int FAULT_COLD = 3;
    private static final int BIT_MUCH = 16;
    private static final int BIT_PRECHARGE = 32;
    private static final int BIT_LEAK = 64;
    private static final int BIT_APART = 128;
    private static final int BIT_WELD = 256;
    private static final int BIT_SILENT = 512;
    private static final int BIT_LOOSE = 1024;

    private static final int HIGH = 0;
    private static final int LOW = 1;
    private static final int HOT = 2;
    private static final int COLD = 3;
    private static final int MOST = 4;
    private static final int GAIN = 5;
    private static final int AMBIENT = 6;
    private static final int LOAD = 7;
    private static final int SLOPE = 8;
    private static final int INSULATION = 9;
    private static final int LEAST_INSULATION = 10;
    private static final int MODE = 11;
    private static final int SHUNT = 12;
    private static final int SHUNTS_AT_ONCE = 13;
    private static final int BAND = 14;
    private static final int SHUTTLE = 15;
    private static final int SHARE = 16;
    private static final int SPREAD = 17;
    private static final int OFFSET = 18;
    private static final int RESTING = 19;
    private static final int REQUEST = 20;
    private static final int COOLING = 21;
    private static final int TOUCH = 22;
    private static final int TAPER = 23;
    private static final int FADE = 24;
    private static final int DRAG = 25;
    private static final int MARGIN = 26;
    private static final int SELF = 27;
    private static final int PATIENCE = 28;
    private static final int INTERLOCK = 29;
    private static final int SETTING_COUNT = 30;

    private static final int[] SETTING_LEAST = {
        3000, 2000, 200, -400, 1, 1, -400, 0, 0, 0,
        0, 0, 0, 0, 0, 0, 0, 1, -999, 1,
        -99999, 1, 0, 0, 0, 0, 0, 0, 0, 0};
    private static final int[] SETTING_MOST = {
        4500, 3700, 900, 200, 99999, 999, 600, 9999, 9999, 99999,
        9999, 2, 9999, 16, 999, 99999, 100, 2000, 999, 99,
        99999, 99, 64, 4500, 9999, 99, 200, 999, 999, 1};
    private static final int[] SETTING_FIRST = {
        4200, 2900, 600, 0, 50000, 200, 250, 0, 20, 9999,
        500, 0, 100, 4, 10, 500, 90, 900, 0, 10,
        0, 10, 0, 0, 0, 0, 0, 0, 0, 1};

    private static final int[] REST_CURVE = {
        3000, 3450, 3550, 3600, 3650, 3700, 3760, 3840, 3930, 4040, 4200};

    private static final int WARMTH_LEAST = -400;
    private static final int WARMTH_MOST = 1200;

    /** Stretches 0 .. 12 for each count of hours 0 .. 24: one row of the table for CHEAPEST. */
    private static final int STRETCH_COUNT = 13;
    private static final int PLAN_SIZE = 25 * STRETCH_COUNT;
    private static final long NO_PLAN = 1L << 60;

    private final State now = new State();
    private final State image = new State();
    private final State trial = new State();
    private final History steps = new History();
    private final History imageSteps = new History();
    private final long[] planOff = new long[PLAN_SIZE];
    private final long[] planOn = new long[PLAN_SIZE];

    public PackWatch() {
    }

    // ---- what changes the pack

    public int cell(int capacity, int part, int ohms) {
        boolean fits = within(capacity, 100, 9999) && within(part, 0, 1000) && within(ohms, 0, 99);
        if (!fits || now.count >= CELLS_MOST) {
            return NONE;
        }
        steps.keep(now);
        return now.addCell(capacity, part, ohms);
    }

    public boolean charge(int cell, int charge) {
        if (!now.hasCell(cell) || !within(charge, 0, now.cells[cell].full())) {
            return false;
        }
        steps.keep(now);
        now.cells[cell].putCharge(charge);
        return true;
    }

    public boolean warm(int cell, int warmth) {
        if (!now.hasCell(cell) || !within(warmth, WARMTH_LEAST, WARMTH_MOST)) {
            return false;
        }
        steps.keep(now);
        now.cells[cell].warmth = warmth;
        return true;
    }

    public boolean set(int what, int value) {
        if (!settingBears(what, value)) {
            return false;
        }
        steps.keep(now);
        now.told.settings[what] = value;
        return true;
    }

    public int run(int n) {
        if (!within(n, 1, RUN_MOST) || now.time + n > TIME_MOST) {
            return NONE;
        }
        steps.keep(now);
        return now.passSeconds(n);
    }

    public boolean close() {
        if (now.state != OPEN || now.watch.latched != 0 || now.count == 0) {
            return false;
        }
        steps.keep(now);
        now.state = PRECHARGE;
        return true;
    }

    public boolean open() {
        if (now.state == OPEN) {
            return false;
        }
        steps.keep(now);
        now.state = OPEN;
        now.current = 0;
        return true;
    }

    public boolean reset(int fault) {
        if (!now.couldReset(fault)) {
            return false;
        }
        steps.keep(now);
        now.watch.latched &= ~(1 << fault);
        return true;
    }

    public boolean stuck(int contactor, int how) {
        if (!within(contactor, 0, 2) || !within(how, 0, 2)) {
            return false;
        }
        steps.keep(now);
        now.told.stuckHow[contactor] = how;
        return true;
    }

    public int zone(int warmth, int current) {
        boolean fits = within(warmth, WARMTH_LEAST, WARMTH_MOST) && within(current, 0, CURRENT_MOST);
        if (!fits || !now.told.bearsZone(warmth)) {
            return NONE;
        }
        steps.keep(now);
        return now.told.addZone(warmth, current);
    }

    public int hear() {
        steps.keep(now);
        int since = now.watch.silence;
        now.watch.silence = 0;
        return since;
    }

    public boolean price(int hour, int price) {
        if (!within(hour, 0, HOUR_COUNT - 1) || !within(price, 0, 999)) {
            return false;
        }
        steps.keep(now);
        now.told.prices[hour] = price;
        return true;
    }

    public boolean mark(int mark) {
        if (!within(mark, 0, 2)) {
            return false;
        }
        steps.keep(now);
        now.layMark(mark);
        return true;
    }

    public int piece(int request, int seconds) {
        if (!settingBears(REQUEST, request) || !within(seconds, 1, 99) || !now.told.bearsPiece()) {
            return NONE;
        }
        steps.keep(now);
        return now.told.addPiece(request, seconds);
    }

    public int rule(int what, boolean above, int limit, int setting, int value) {
        if (!within(what, 0, 13) || !settingBears(setting, value) || !now.told.bearsRule()) {
            return NONE;
        }
        steps.keep(now);
        return now.told.addRule(what, above ? 1 : 0, limit, setting, value);
    }

    public int unrule() {
        steps.keep(now);
        int had = now.told.ruleCount;
        now.told.ruleCount = 0;
        return had;
    }

    public int wipe() {
        steps.keep(now);
        int had = now.told.pieceCount;
        now.told.pieceCount = 0;
        return had;
    }

    public int drive() {
        if (now.told.pieceCount == 0 || now.time + now.told.pieceSeconds() > TIME_MOST) {
            return NONE;
        }
        steps.keep(now);
        return now.passDrive();
    }

    public int undo() {
        if (steps.count == 0) {
            return NONE;
        }
        steps.takeBackInto(now);
        return steps.count;
    }

    public int image() {
        image.become(now);
        imageSteps.become(steps);
        return now.time;
    }

    /** The steps come back with the image: all is so again, also what can be taken back. */
    public int back() {
        now.become(image);
        steps.become(imageSteps);
        return now.time;
    }

    // ---- what is told of it

    public int is(int what) {
        return now.tell(what);
    }

    public int setting(int what) {
        return within(what, 0, SETTING_COUNT - 1) ? now.told.settings[what] : NOTHING;
    }

    public int of(int cell, int what) {
        return now.tellOf(cell, what);
    }

    public int ruleOf(int i, int what) {
        if (i == NONE) {
            return now.told.ruleCount;
        }
        if (!within(i, 0, now.told.ruleCount - 1) || !within(what, 0, Told.RULE_WIDTH - 1)) {
            return NOTHING;
        }
        return now.told.rules[i * Told.RULE_WIDTH + what];
    }

    public int module(int module, int what) {
        if (!within(module, 0, 3) || !within(what, 0, 3)) {
            return NOTHING;
        }
        int from = module * 4;
        int to = Math.min(from + 4, now.count);
        return from >= to ? NOTHING : now.tellModule(from, to, what);
    }

    public int zoneOf(int i, int what) {
        if (!within(i, 0, now.told.zoneCount - 1) || !within(what, 0, 1)) {
            return NOTHING;
        }
        return now.told.zones[i * 2 + what];
    }

    public int cycles(int cell, int k) {
        return now.hasCell(cell) && within(k, 0, 10) ? now.cells[cell].turns.cycles[k] : NONE;
    }

    public int turn(int cell, int i) {
        if (!now.hasCell(cell)) {
            return NONE;
        }
        Turns turns = now.cells[cell].turns;
        return within(i, 0, turns.count - 1) ? turns.at[i] : NONE;
    }

    public int stuckAs(int contactor) {
        return within(contactor, 0, 2) ? now.told.stuckHow[contactor] : NONE;
    }

    public int warnings() {
        int bits = 0;
        int margin = now.told.settings[MARGIN];
        for (int i = 0; i < now.count; i++) {
            bits |= now.cells[i].warningBits(now.current, now.told, margin);
        }
        boolean apart = now.count > 0 && now.partSpread() > now.told.settings[SPREAD] - margin;
        return apart ? bits | BIT_APART : bits;
    }

    public int need(int cell) {
        int shunt = now.told.settings[SHUNT];
        if (!now.hasCell(cell) || shunt <= 0) {
            return NONE;
        }
        int over = now.cells[cell].charge - chargeBy(now.leastPart(), now.cells[cell].capacity);
        return over <= 0 ? 0 : (over + shunt - 1) / shunt;
    }

    public int trace(int i, int what) {
        return i == NONE ? now.trace.count : now.trace.tellLine(i, what, 3, NOTHING);
    }

    public int culprit(int fault) {
        return within(fault, FAULT_HIGH, FAULT_COLD) ? now.watch.culprits[fault] : NONE;
    }

    public int since(int mark, int cell, int what) {
        if (!within(mark, 0, 2) || !now.hasCell(cell) || cell >= now.marks[mark].count) {
            return NOTHING;
        }
        Mark then = now.marks[mark];
        switch (what) {
            case 0: return then.parts[cell];
            case 1: return now.cells[cell].part - then.parts[cell];
            case 2: return now.cells[cell].through - then.throughs[cell];
            case 3: return now.time - then.time;
            default: return NOTHING;
        }
    }

    public int rank(int i) {
        return now.rankedCell(i);
    }

    public int middle() {
        return now.middlePart();
    }

    public int scatter() {
        if (now.count == 0) {
            return NONE;
        }
        int middle = now.middlePart();
        int sum = 0;
        for (int i = 0; i < now.count; i++) {
            sum += Math.abs(now.cells[i].part - middle);
        }
        return sum;
    }

    public int goal() {
        return now.goalPart();
    }

    public int flow(int i) {
        if (!within(i, 0, now.count - 2)) {
            return NOTHING;
        }
        int goal = now.goalPart();
        int sum = 0;
        for (int c = 0; c <= i; c++) {
            sum += now.cells[c].charge - chargeBy(goal, now.cells[c].capacity);
        }
        return sum;
    }

    public int halves(int what) {
        int n = now.count;
        if (n == 0 || n > 8 || n % 2 != 0 || !within(what, 0, 1)) {
            return NONE;
        }
        int bestBits = NONE;
        int best = NO_BOUND;
        for (int bits = 1; bits < 1 << n; bits += 2) {
            int apart = Math.abs(now.chargeApart(bits));
            if (Integer.bitCount(bits) == n / 2 && apart < best) {
                best = apart;
                bestBits = bits;
            }
        }
        return what == 0 ? bestBits : best;
    }

    public int cheapest(int k, int m, int what) {
        if (!within(k, 0, HOUR_COUNT) || !within(m, 1, STRETCH_COUNT - 1) || !within(what, 0, 1)) {
            return NONE;
        }
        planHours(k, m);
        long best = NO_PLAN;
        for (int s = 0; s <= m; s++) {
            int i = k * STRETCH_COUNT + s;
            best = Math.min(best, Math.min(planOff[i], planOn[i]));
        }
        if (best >= NO_PLAN) {
            return NONE;
        }
        return what == 0 ? (int) (best >> HOUR_COUNT) : (int) (best & ((1L << HOUR_COUNT) - 1));
    }

    public int hours(int part, int current) {
        if (!within(part, 0, 1000) || !within(current, 1, CURRENT_MOST)) {
            return NONE;
        }
        int lack = 0;
        for (int i = 0; i < now.count; i++) {
            Cell cell = now.cells[i];
            lack = Math.max(lack, chargeBy(part, cell.capacity) - cell.charge);
        }
        int anHour = current * 3600;
        return (int) (((long) lack + anHour - 1) / anHour);
    }

    public int energy() {
        long sum = 0;
        for (int i = 0; i < now.count; i++) {
            sum += (long) now.cells[i].charge * now.cells[i].rest;
        }
        return (int) (sum / 3600000);
    }

    public int below(int part) {
        if (!within(part, 0, 1000)) {
            return NONE;
        }
        int found = 0;
        for (int i = 0; i < now.count; i++) {
            found += now.cells[i].part < part ? 1 : 0;
        }
        return found;
    }

    public int rest(int part) {
        return within(part, 0, 1000) ? restBy(part) : NONE;
    }

    public int partBy(int volts) {
        return partByVolts(volts);
    }

    public int limit(int way) {
        return within(way, INTO, OUT_OF) && now.count > 0 ? now.limitOf(way) : NONE;
    }

    public int worst(int way) {
        return within(way, INTO, OUT_OF) ? now.worstCell(way) : NONE;
    }

    public int spread() {
        return now.partSpread();
    }

    public boolean mayReset(int fault) {
        return now.couldReset(fault);
    }

    public int when(int fault) {
        return within(fault, 0, FAULT_COUNT - 1) ? now.watch.whens[fault] : NONE;
    }

    public int book(int i, int what) {
        return i == NONE ? now.watch.book.count : now.watch.book.tellLine(i, what, 2, NO_LINE);
    }

    public int driveOf(int i, int what) {
        if (!within(i, 0, now.told.pieceCount - 1) || !within(what, 0, 1)) {
            return NOTHING;
        }
        return now.told.pieces[i * 2 + what];
    }

    public int room(int way) {
        if (!within(way, INTO, OUT_OF) || now.count == 0) {
            return NONE;
        }
        int least = NO_BOUND;
        for (int i = 0; i < now.count; i++) {
            Cell cell = now.cells[i];
            least = Math.min(least, way == INTO ? cell.full() - cell.charge : cell.charge);
        }
        return least;
    }

    public long fullness() {
        long full = now.allFull();
        if (full == 0) {
            return 0;
        }
        return bitsOfDouble((double) now.allCharge() / (double) full);
    }

    public int off() {
        if (now.count == 0) {
            return 0;
        }
        int sum = 0;
        for (int i = 0; i < now.count; i++) {
            sum += Math.abs(now.cells[i].reckonedPart() - now.cells[i].part);
        }
        return bitsOfFloat((float) sum / (float) now.count);
    }

    public int steps() {
        return steps.count;
    }

    // ---- what is foretold

    public int foretold(int n, int what) {
        if (!within(n, 1, RUN_MOST)) {
            return NOTHING;
        }
        trial.become(now);
        trial.passSeconds(n);
        return trial.tell(what);
    }

    public int foretoldOf(int n, int cell, int what) {
        if (!within(n, 1, RUN_MOST)) {
            return NOTHING;
        }
        trial.become(now);
        trial.passSeconds(n);
        return trial.tellOf(cell, what);
    }

    public int driven(int what) {
        trial.become(now);
        trial.passDrive();
        return trial.tell(what);
    }

    public int bare() {
        trial.become(now);
        for (int s = 1; s <= FAR_MOST; s++) {
            int movedBefore = trial.moved;
            trial.passSecond();
            if (trial.shuntedBits == 0 && trial.moved == movedBefore) {
                return s;
            }
        }
        return NONE;
    }

    public int harm(int n) {
        if (!within(n, 1, RUN_MOST) || now.time + n > TIME_MOST) {
            return NONE;
        }
        trial.become(now);
        for (int s = 0; s < n; s++) {
            int before = trial.watch.latched;
            if (trial.passSecond() > 0) {
                return lowestBit(trial.watch.latched & ~before);
            }
        }
        return NONE;
    }

    /** The LIMIT of now holds in the first SECOND whatever the REQUEST is: none above it can do. */
    public int power(int way, int n) {
        boolean fits = within(way, INTO, OUT_OF) && within(n, 1, TRIAL_MOST);
        if (!fits || now.state != CLOSED || now.time + n > TIME_MOST) {
            return NONE;
        }
        int sign = way == INTO ? 1 : -1;
        for (int size = now.limitOf(way) / 100 * 100; size > 0; size -= 100) {
            if (bears(sign * size, n)) {
                return sign * size;
            }
        }
        return 0;
    }

    public int bestBand(int n, int spread) {
        if (!within(n, 1, TRIAL_MOST) || !within(spread, 0, 1000) || now.count == 0) {
            return NONE;
        }
        for (int band = 99; band >= 0; band--) {
            if (spreadBehind(n, BAND, band) <= spread) {
                return band;
            }
        }
        return NONE;
    }

    public int yields(int current) {
        if (!within(current, 1, CURRENT_MOST)) {
            return NONE;
        }
        trial.become(now);
        trial.told.ruleCount = 0;
        trial.told.settings[REQUEST] = -current;
        for (int s = 1; s <= FAR_MOST && trial.time < TIME_MOST; s++) {
            trial.passSecond();
            if (trial.current != -current) {
                return s;
            }
        }
        return NONE;
    }

    public int eta(int way) {
        if (!within(way, INTO, OUT_OF)) {
            return NONE;
        }
        trial.become(now);
        for (int s = 0; s <= FAR_MOST; s++) {
            if (trial.hasEnded(way)) {
                return s;
            }
            if (s < FAR_MOST) {
                trial.passSecond();
            }
        }
        return NONE;
    }

    public int bestMode(int n) {
        if (!within(n, 1, RUN_MOST) || now.count == 0) {
            return NONE;
        }
        int bestMode = NONE;
        int best = NO_BOUND;
        for (int mode = 0; mode <= SHUTTLES; mode++) {
            int spread = spreadBehind(n, MODE, mode);
            if (spread < best) {
                best = spread;
                bestMode = mode;
            }
        }
        return bestMode;
    }

    private int spreadBehind(int n, int setting, int value) {
        trial.become(now);
        trial.told.settings[setting] = value;
        for (int s = 0; s < n; s++) {
            trial.passSecond();
        }
        return trial.partSpread();
    }

    private boolean bears(int request, int n) {
        trial.become(now);
        trial.told.ruleCount = 0;
        trial.told.settings[TAPER] = 0;
        trial.told.settings[REQUEST] = request;
        for (int s = 0; s < n; s++) {
            if (trial.passSecond() > 0 || trial.current != request) {
                return false;
            }
        }
        return true;
    }

    /**
     * A plan's price and its hours as bits stand in one number, the price in front: both only add
     * up, so the least of such numbers is the cheapest plan, of like ones that of the least bits.
     */
    private void planHours(int k, int m) {
        Arrays.fill(planOff, NO_PLAN);
        Arrays.fill(planOn, NO_PLAN);
        planOff[0] = 0;
        for (int hour = 0; hour < HOUR_COUNT; hour++) {
            long cost = ((long) now.told.prices[hour] << HOUR_COUNT) + (1L << hour);
            for (int taken = k; taken >= 0; taken--) {
                for (int s = m; s >= 0; s--) {
                    planOneHour(taken, s, cost);
                }
            }
        }
    }

    /** Counts are gone through downward, so that those below still are of the hour ahead. */
    private void planOneHour(int taken, int stretches, long cost) {
        int i = taken * STRETCH_COUNT + stretches;
        planOff[i] = Math.min(planOff[i], planOn[i]);
        long before = NO_PLAN;
        if (taken > 0 && stretches > 0) {
            int less = i - STRETCH_COUNT;
            before = Math.min(planOn[less], planOff[less - 1]);
        }
        planOn[i] = Math.min(before + cost, NO_PLAN);
    }

    // ---- reckoning that belongs to no object

    private static boolean within(int value, int least, int most) {
        return value >= least && value <= most;
    }

    private static boolean settingBears(int what, int value) {
        return within(what, 0, SETTING_COUNT - 1) && within(value, SETTING_LEAST[what], SETTING_MOST[what]);
    }

    private static int heldTo(int value, int least, int most) {
        if (value < least) {
            return least;
        }
        return value > most ? most : value;
    }

    private static int chargeBy(int part, int capacity) {
        return part * capacity * 36 / 10;
    }

    private static int partOf(int charge, int full) {
        return full <= 0 ? 0 : (int) ((long) charge * 1000 / full);
    }

    private static int restBy(int part) {
        int held = part < 0 ? 0 : part;
        int i = held / 100;
        if (i >= REST_CURVE.length - 1) {
            return REST_CURVE[REST_CURVE.length - 1];
        }
        return REST_CURVE[i] + (REST_CURVE[i + 1] - REST_CURVE[i]) * (held % 100) / 100;
    }

    private static int partByVolts(int volts) {
        int low = 0;
        int high = 1000;
        for (int i = 0; i < 10 && low < high; i++) {
            int half = (low + high) / 2;
            if (restBy(half) >= volts) {
                high = half;
            } else {
                low = half + 1;
            }
        }
        return low;
    }

    private static int lowestBit(int bits) {
        return bits == 0 ? NONE : Integer.numberOfTrailingZeros(bits);
    }

    /** For 0 and what is above it; the scale goes by twos, which loses nothing. */
    private static long bitsOfDouble(double value) {
        if (value <= 0.0) {
            return 0;
        }
        int exponent = 0;
        double scaled = value;
        for (int i = 0; i < 64 && scaled < 1.0; i++) {
            scaled = scaled * 2.0;
            exponent--;
        }
        long fraction = (long) ((scaled - 1.0) * (double) (1L << 52));
        return ((long) (1023 + exponent) << 52) + fraction;
    }

    private static int bitsOfFloat(float value) {
        if (value <= 0.0f) {
            return 0;
        }
        int exponent = 0;
        float scaled = value;
        for (int i = 0; i < 32 && scaled < 1.0f; i++) {
            scaled = scaled * 2.0f;
            exponent--;
        }
        for (int i = 0; i < 32 && scaled >= 2.0f; i++) {
            scaled = scaled / 2.0f;
            exponent++;
        }
        int fraction = (int) ((scaled - 1.0f) * (float) (1 << 23));
        return ((127 + exponent) << 23) + fraction;
    }

    /** Where a cell's PART turned back, and the CYCLES that were counted of it. */
    private static final class Turns {
        static final int TURNS_MOST = 32;
        static final int CYCLE_KINDS = 11;

        final int[] at = new int[TURNS_MOST];
        final int[] cycles = new int[CYCLE_KINDS];
        int count;

        void begin(int part) {
            Arrays.fill(cycles, 0);
            at[0] = part;
            count = 1;
        }

        void become(Turns other) {
            System.arraycopy(other.at, 0, at, 0, TURNS_MOST);
            System.arraycopy(other.cycles, 0, cycles, 0, CYCLE_KINDS);
            count = other.count;
        }

        void follow(int part) {
            if (count == 0 || part == at[count - 1]) {
                return;
            }
            if (goesOn(part)) {
                at[count - 1] = part;
            } else {
                add(part);
            }
            countCycles();
        }

        private boolean goesOn(int part) {
            if (count < 2) {
                return false;
            }
            int latest = at[count - 1];
            return (latest > at[count - 2]) == (part > latest);
        }

        private void add(int part) {
            if (count == TURNS_MOST) {
                System.arraycopy(at, 1, at, 0, TURNS_MOST - 1);
                count--;
            }
            at[count] = part;
            count++;
        }

        private void countCycles() {
            while (count >= 4) {
                int middle = way(count - 3);
                if (middle > way(count - 4) || middle > way(count - 2)) {
                    return;
                }
                cycles[Math.min(middle / 100, CYCLE_KINDS - 1)]++;
                at[count - 3] = at[count - 1];
                count -= 2;
            }
        }

        private int way(int from) {
            int step = at[from + 1] - at[from];
            return step < 0 ? -step : step;
        }
    }

    /** One CELL. Its PART and REST are kept beside its CHARGE, as a SECOND asks for them often. */
    private static final class Cell {
        int capacity;
        int toldCapacity;
        int charge;
        int part;
        int rest;
        int ohms;
        int warmth;
        int polar;
        int reckoned;
        int through;
        boolean hadSecond;
        int latestVolts;
        int greatestVolts;
        int leastVolts;
        int measuredOhms;
        int guess;
        int passed;
        int restingPart;
        int heldBack;
        final Turns turns = new Turns();

        void begin(int toldAs, int toldPart, int toldOhms, int ambient) {
            capacity = toldAs;
            toldCapacity = toldAs;
            ohms = toldOhms;
            warmth = ambient;
            putCharge(chargeBy(toldPart, toldAs));
            reckoned = charge;
            polar = 0;
            through = 0;
            hadSecond = false;
            latestVolts = 0;
            greatestVolts = 0;
            leastVolts = 0;
            measuredOhms = NO_OHMS;
            guess = NONE;
            passed = 0;
            restingPart = NONE;
            heldBack = 0;
            turns.begin(part);
        }

        void become(Cell other) {
            capacity = other.capacity;
            toldCapacity = other.toldCapacity;
            charge = other.charge;
            part = other.part;
            rest = other.rest;
            ohms = other.ohms;
            warmth = other.warmth;
            polar = other.polar;
            reckoned = other.reckoned;
            through = other.through;
            hadSecond = other.hadSecond;
            latestVolts = other.latestVolts;
            greatestVolts = other.greatestVolts;
            leastVolts = other.leastVolts;
            measuredOhms = other.measuredOhms;
            guess = other.guess;
            passed = other.passed;
            restingPart = other.restingPart;
            heldBack = other.heldBack;
            turns.become(other.turns);
        }

        int full() {
            return capacity * 3600;
        }

        void putCharge(int value) {
            charge = heldTo(value, 0, full());
            part = partOf(charge, full());
            rest = restBy(part);
        }

        void putReckoned(int value) {
            reckoned = heldTo(value, 0, full());
        }

        int reckonedPart() {
            return partOf(reckoned, full());
        }

        int voltsAt(int current) {
            return rest + polar + Math.floorDiv(current * ohms, 1000);
        }

        /** What this CELL alone lets through that way, MOST aside. */
        int ownLimit(int way, Told told) {
            int[] settings = told.settings;
            if (way == INTO && warmth < settings[COLD]) {
                return 0;
            }
            int volts = rest + polar;
            int bySpan = (way == INTO ? settings[HIGH] - volts : volts - settings[LOW]) * settings[GAIN];
            int byHeat = (settings[HOT] - warmth) * 500;
            int byZone = told.zoneCurrent(warmth);
            return Math.max(0, Math.min(byZone, Math.min(bySpan, byHeat)));
        }

        /** (3) of a SECOND, as far as it asks for no other CELL. */
        void pass(int current, Told told) {
            int[] settings = told.settings;
            int held = heldTo(charge + current - settings[SELF], 0, full());
            int thousands = current / 1000;
            warmth += thousands * thousands * ohms / 500;
            warmth += (settings[AMBIENT] - warmth) / 32;
            polar += (current * settings[DRAG] / 1000 - polar) / 8;
            through += Math.abs(current);
            wear(settings[FADE]);
            putCharge(held);
            putReckoned(reckoned + current + settings[OFFSET]);
        }

        /** At once what one by one would take: THROUGH may hold very many lots of a small FADE. */
        private void wear(int fade) {
            int lot = fade * 3600;
            if (lot <= 0 || through < lot) {
                return;
            }
            capacity = Math.max(100, capacity - through / lot);
            through = through % lot;
            putReckoned(reckoned);
        }

        /** What CHARGE lost. */
        int giveShunt(int shunt) {
            int lost = Math.min(shunt, charge);
            putCharge(charge - lost);
            putReckoned(reckoned - shunt);
            return lost;
        }

        void takeOrGive(int more) {
            putCharge(charge + more);
            putReckoned(reckoned + more);
        }

        /** (6) of a SECOND, ahead of RESTING. */
        void measure(int current, int currentAhead) {
            int volts = voltsAt(current);
            int step = current - currentAhead;
            if (hadSecond && Math.abs(step) >= 1000) {
                measuredOhms = (volts - latestVolts) * 1000 / step;
            }
            latestVolts = volts;
            passed += current;
        }

        void reckonAtRest() {
            int restsAt = partByVolts(voltsAt(0));
            int way = Math.abs(restsAt - restingPart);
            putReckoned(chargeBy(restsAt, capacity));
            if (restingPart != NONE && way >= 100) {
                guess = (int) ((long) Math.abs(passed) * 1000 / ((long) way * 3600));
            }
            restingPart = restsAt;
            passed = 0;
        }

        void keepTrack(int current) {
            int volts = voltsAt(current);
            greatestVolts = hadSecond ? Math.max(greatestVolts, volts) : volts;
            leastVolts = hadSecond ? Math.min(leastVolts, volts) : volts;
            hadSecond = true;
            turns.follow(part);
        }

        int warningBits(int current, Told told, int margin) {
            int volts = voltsAt(current);
            int bits = volts > told.settings[HIGH] - margin ? 1 << FAULT_HIGH : 0;
            bits |= volts < told.settings[LOW] + margin ? 1 << FAULT_LOW : 0;
            bits |= warmth > told.settings[HOT] - margin ? 1 << FAULT_HOT : 0;
            bits |= warmth < told.settings[COLD] + margin ? 1 << FAULT_COLD : 0;
            return bits;
        }

        int tellWhat(int what, int current) {
            switch (what) {
                case 0: return capacity;
                case 1: return charge;
                case 2: return ohms;
                case 3: return warmth;
                case 4: return part;
                case 5: return rest;
                case 6: return voltsAt(current);
                case 7: return reckonedPart();
                case 8: return reckoned;
                case 9: return through;
                case 10: return toldCapacity <= 0 ? NONE : capacity * 1000 / toldCapacity;
                case 11: return hadSecond ? greatestVolts : NONE;
                case 12: return hadSecond ? leastVolts : NONE;
                case 13: return polar;
                case 14: return turns.count;
                case 15: return measuredOhms;
                case 16: return guess;
                case 17: return passed;
                case 18: return heldBack;
                default: return NOTHING;
            }
        }
    }

    /** What callers tell the pack beside its cells: settings and lists. */
    private static final class Told {
        static final int ZONES_MOST = 6;
        static final int PIECES_MOST = 24;
        static final int RULES_MOST = 8;
        static final int RULE_WIDTH = 5;

        final int[] settings = SETTING_FIRST.clone();
        final int[] stuckHow = new int[3];
        final int[] prices = new int[HOUR_COUNT];
        final int[] zones = new int[ZONES_MOST * 2];
        final int[] pieces = new int[PIECES_MOST * 2];
        final int[] rules = new int[RULES_MOST * RULE_WIDTH];
        int zoneCount;
        int pieceCount;
        int ruleCount;

        void become(Told other) {
            System.arraycopy(other.settings, 0, settings, 0, SETTING_COUNT);
            System.arraycopy(other.stuckHow, 0, stuckHow, 0, stuckHow.length);
            System.arraycopy(other.prices, 0, prices, 0, prices.length);
            System.arraycopy(other.zones, 0, zones, 0, zones.length);
            System.arraycopy(other.pieces, 0, pieces, 0, pieces.length);
            System.arraycopy(other.rules, 0, rules, 0, rules.length);
            zoneCount = other.zoneCount;
            pieceCount = other.pieceCount;
            ruleCount = other.ruleCount;
        }

        boolean bearsZone(int warmth) {
            if (zoneCount >= ZONES_MOST) {
                return false;
            }
            return zoneCount == 0 || warmth > zones[zoneCount * 2 - 2];
        }

        int addZone(int warmth, int current) {
            zones[zoneCount * 2] = warmth;
            zones[zoneCount * 2 + 1] = current;
            zoneCount++;
            return zoneCount;
        }

        /** Without such a ZONE a number that holds nothing back. */
        int zoneCurrent(int warmth) {
            int current = NO_BOUND;
            for (int i = 0; i < zoneCount; i++) {
                if (warmth >= zones[i * 2]) {
                    current = zones[i * 2 + 1];
                }
            }
            return current;
        }

        boolean bearsPiece() {
            return pieceCount < PIECES_MOST;
        }

        int addPiece(int request, int seconds) {
            pieces[pieceCount * 2] = request;
            pieces[pieceCount * 2 + 1] = seconds;
            pieceCount++;
            return pieceCount;
        }

        int pieceSeconds() {
            int sum = 0;
            for (int i = 0; i < pieceCount; i++) {
                sum += pieces[i * 2 + 1];
            }
            return sum;
        }

        boolean bearsRule() {
            return ruleCount < RULES_MOST;
        }

        int addRule(int what, int above, int limit, int setting, int value) {
            int from = ruleCount * RULE_WIDTH;
            rules[from] = what;
            rules[from + 1] = above;
            rules[from + 2] = limit;
            rules[from + 3] = setting;
            rules[from + 4] = value;
            ruleCount++;
            return ruleCount;
        }
    }

    /** The latest lines of a list, the eldest going first when it is full. */
    private static final class Lines {
        static final int WIDTH = 3;

        final int most;
        final int[] row;
        int first;
        int count;

        Lines(int most) {
            this.most = most < 1 ? 1 : most;
            this.row = new int[this.most * WIDTH];
        }

        void become(Lines other) {
            System.arraycopy(other.row, 0, row, 0, Math.min(row.length, other.row.length));
            first = other.first;
            count = other.count;
        }

        void add(int a, int b, int c) {
            int from = place(count) * WIDTH;
            row[from] = a;
            row[from + 1] = b;
            row[from + 2] = c;
            if (count < most) {
                count++;
            } else {
                first = place(1);
            }
        }

        int tellLine(int i, int what, int width, int none) {
            if (!within(i, 0, count - 1) || !within(what, 0, width - 1)) {
                return none;
            }
            return row[place(i) * WIDTH + what];
        }

        private int place(int i) {
            int at = first + i;
            return at >= most ? at - most : at;
        }
    }

    /** What was, when a MARK was laid; with no cells in it, it tells nothing. */
    private static final class Mark {
        final int[] parts = new int[CELLS_MOST];
        final int[] throughs = new int[CELLS_MOST];
        int count;
        int time;

        void become(Mark other) {
            System.arraycopy(other.parts, 0, parts, 0, CELLS_MOST);
            System.arraycopy(other.throughs, 0, throughs, 0, CELLS_MOST);
            count = other.count;
            time = other.time;
        }
    }

    /** FAULTS, what they are told by over several SECONDS, and THE BOOK of them. */
    private static final class Watch {
        static final int BOOK_MOST = 24;
        static final int LEAK_SECONDS = 3;

        final int[] whens = new int[FAULT_COUNT];
        final int[] culprits = new int[FAULT_COLD + 1];
        final Lines book = new Lines(BOOK_MOST);
        int latched;
        int silence;
        int leakSeconds;
        boolean otherThanOrdered;

        Watch() {
            Arrays.fill(whens, NONE);
            Arrays.fill(culprits, NONE);
        }

        void become(Watch other) {
            System.arraycopy(other.whens, 0, whens, 0, FAULT_COUNT);
            System.arraycopy(other.culprits, 0, culprits, 0, culprits.length);
            book.become(other.book);
            latched = other.latched;
            silence = other.silence;
            leakSeconds = other.leakSeconds;
            otherThanOrdered = other.otherThanOrdered;
        }

        /** The bit of a FAULT that is so by a CELL, or by the BOARD (NONE). */
        int blame(int fault, int cell) {
            culprits[fault] = cell;
            return 1 << fault;
        }

        int leakBit(boolean below) {
            leakSeconds = below ? Math.min(leakSeconds + 1, LEAK_SECONDS) : 0;
            return leakSeconds == LEAK_SECONDS ? BIT_LEAK : 0;
        }

        int weldBit(boolean other) {
            boolean again = other && otherThanOrdered;
            otherThanOrdered = other;
            return again ? BIT_WELD : 0;
        }

        int silentBit(int patience) {
            silence++;
            return patience != 0 && silence > patience ? BIT_SILENT : 0;
        }

        /** How many of those that are so were not latched before. */
        int latch(int so, int time) {
            int more = 0;
            for (int fault = 0; fault < FAULT_COUNT; fault++) {
                int bit = 1 << fault;
                if ((so & bit) != 0) {
                    whens[fault] = time;
                    if ((latched & bit) == 0) {
                        latched |= bit;
                        book.add(time, fault, 0);
                        more++;
                    }
                }
            }
            return more;
        }
    }

    /** All that the pack is at one time; STEPS, THE IMAGE and what is foretold are such states. */
    private static final class State {
        static final int TRACE_MOST = 32;
        static final int MARK_COUNT = 3;

        final Cell[] cells = new Cell[CELLS_MOST];
        final Told told = new Told();
        final Watch watch = new Watch();
        final Mark[] marks = new Mark[MARK_COUNT];
        final Lines trace = new Lines(TRACE_MOST);
        int count;
        int time;
        int state;
        int bus;
        int current;
        int currentAhead;
        int board;
        int rested;
        int shunted;
        int moved;
        int lost;
        int shuntedBits;

        State() {
            for (int i = 0; i < CELLS_MOST; i++) {
                cells[i] = new Cell();
            }
            for (int i = 0; i < MARK_COUNT; i++) {
                marks[i] = new Mark();
            }
            board = SETTING_FIRST[AMBIENT];
        }

        void become(State other) {
            for (int i = 0; i < other.count; i++) {
                cells[i].become(other.cells[i]);
            }
            for (int i = 0; i < MARK_COUNT; i++) {
                marks[i].become(other.marks[i]);
            }
            told.become(other.told);
            watch.become(other.watch);
            trace.become(other.trace);
            count = other.count;
            time = other.time;
            state = other.state;
            bus = other.bus;
            current = other.current;
            currentAhead = other.currentAhead;
            board = other.board;
            rested = other.rested;
            shunted = other.shunted;
            moved = other.moved;
            lost = other.lost;
            shuntedBits = other.shuntedBits;
        }

        boolean hasCell(int cell) {
            return within(cell, 0, count - 1);
        }

        int addCell(int capacity, int part, int ohms) {
            cells[count].begin(capacity, part, ohms, told.settings[AMBIENT]);
            count++;
            return count - 1;
        }

        void layMark(int mark) {
            Mark laid = marks[mark];
            for (int i = 0; i < count; i++) {
                laid.parts[i] = cells[i].part;
                laid.throughs[i] = cells[i].through;
            }
            laid.count = count;
            laid.time = time;
        }

        boolean couldReset(int fault) {
            if (!within(fault, 0, FAULT_COUNT - 1) || (watch.latched & 1 << fault) == 0) {
                return false;
            }
            return state == OPEN && time - watch.whens[fault] >= told.settings[COOLING];
        }

        // ---- what follows from the cells

        int packAt(int anyCurrent) {
            int sum = 0;
            for (int i = 0; i < count; i++) {
                sum += cells[i].voltsAt(anyCurrent);
            }
            return sum;
        }

        int leastPart() {
            int least = 1000;
            for (int i = 0; i < count; i++) {
                least = Math.min(least, cells[i].part);
            }
            return least;
        }

        int partSpread() {
            return count == 0 ? NONE : spreadOf(0, count);
        }

        private int spreadOf(int from, int to) {
            int least = 1000;
            int greatest = 0;
            for (int i = from; i < to; i++) {
                least = Math.min(least, cells[i].part);
                greatest = Math.max(greatest, cells[i].part);
            }
            return greatest - least;
        }

        long allCharge() {
            long sum = 0;
            for (int i = 0; i < count; i++) {
                sum += cells[i].charge;
            }
            return sum;
        }

        long allFull() {
            long sum = 0;
            for (int i = 0; i < count; i++) {
                sum += cells[i].full();
            }
            return sum;
        }

        int goalPart() {
            long full = allFull();
            return full <= 0 ? NONE : (int) (allCharge() * 1000 / full);
        }

        int chargeApart(int bits) {
            int apart = 0;
            for (int i = 0; i < count; i++) {
                apart += (bits >> i & 1) != 0 ? cells[i].charge : -cells[i].charge;
            }
            return apart;
        }

        int rankedCell(int place) {
            for (int i = 0; i < count; i++) {
                if (placeOf(i) == place) {
                    return i;
                }
            }
            return NONE;
        }

        private int placeOf(int cell) {
            int ahead = 0;
            int part = cells[cell].part;
            for (int i = 0; i < count; i++) {
                boolean like = cells[i].part == part && i < cell;
                ahead += like || cells[i].part > part ? 1 : 0;
            }
            return ahead;
        }

        /** From the greatest on, half of the count is the lesser one of two middle ones. */
        int middlePart() {
            int cell = rankedCell(count / 2);
            return cell == NONE ? NONE : cells[cell].part;
        }

        boolean hasEnded(int way) {
            for (int i = 0; i < count; i++) {
                if (cells[i].charge == (way == INTO ? cells[i].full() : 0)) {
                    return true;
                }
            }
            return false;
        }

        int limitOf(int way) {
            int most = told.settings[MOST];
            int worst = worstCell(way);
            return worst == NONE ? most : Math.min(most, cells[worst].ownLimit(way, told));
        }

        int worstCell(int way) {
            int worst = NONE;
            int least = NO_BOUND;
            for (int i = 0; i < count; i++) {
                int own = cells[i].ownLimit(way, told);
                if (worst == NONE || own < least) {
                    worst = i;
                    least = own;
                }
            }
            return worst;
        }

        // ---- what follows from the contactors

        private int orderedBits() {
            if (state == OPEN) {
                return 0;
            }
            return state == PRECHARGE ? MINUS_BIT | PRE_BIT : MINUS_BIT | PLUS_BIT;
        }

        int actualBits() {
            int bits = orderedBits();
            for (int i = 0; i < told.stuckHow.length; i++) {
                if (told.stuckHow[i] == WELDED) {
                    bits |= 1 << i;
                } else if (told.stuckHow[i] == DEAD) {
                    bits &= ~(1 << i);
                }
            }
            return bits;
        }

        private boolean areActual(int bits) {
            return (actualBits() & bits) == bits;
        }

        // ---- a second

        int passSeconds(int n) {
            int latched = 0;
            for (int s = 0; s < n; s++) {
                latched += passSecond();
            }
            return latched;
        }

        int passDrive() {
            int latched = 0;
            for (int i = 0; i < told.pieceCount; i++) {
                told.settings[REQUEST] = told.pieces[i * 2];
                int seconds = Math.min(told.pieces[i * 2 + 1], TIME_MOST - time);
                for (int s = 0; s < seconds; s++) {
                    latched += passSecond();
                }
            }
            return latched;
        }

        /** Numbers stand for the document's places in A SECOND; how many FAULTS were latched. */
        int passSecond() {
            time = Math.min(time + 1, TIME_MOST);
            int so = moveBus() ? BIT_PRECHARGE : 0; // (1)
            letCurrent(); // (2)
            passCells(); // (3)
            balance(); // (4)
            board += (told.settings[AMBIENT] - board) / 16; // (5)
            measure(); // (6)
            int more = watch.latch(so | faultsOfCells() | faultsOfPack(), time); // (7)
            if (watch.latched != 0) {
                state = OPEN;
            }
            keepTrack();
            obeyRules(); // (8)
            currentAhead = current;
            return more;
        }

        /** Whether PRECHARGE goes on too slowly. */
        private boolean moveBus() {
            int before = bus;
            int pack = packAt(0);
            if (areActual(MINUS_BIT | PLUS_BIT)) {
                bus = pack;
            } else if (areActual(MINUS_BIT | PRE_BIT)) {
                int quarter = (Math.max(pack - bus, 0) + 3) / 4;
                bus = Math.max(bus + quarter - told.settings[LOAD], 0);
            } else {
                bus = Math.floorDiv(bus, 2);
            }
            if (state != PRECHARGE) {
                return false;
            }
            if (bus * 1000 >= 950 * pack) {
                state = CLOSED;
                return false;
            }
            return bus - before < told.settings[SLOPE];
        }

        private void letCurrent() {
            current = 0;
            if (!areActual(MINUS_BIT | PLUS_BIT)) {
                return;
            }
            int request = told.settings[REQUEST];
            int way = request < 0 ? OUT_OF : INTO;
            int limit = limitOf(way);
            current = heldTo(request, -limit, limit);
            if (current != request) {
                countHeldBack(way);
            }
        }

        private void countHeldBack(int way) {
            int worst = worstCell(way);
            if (worst != NONE && cells[worst].ownLimit(way, told) <= told.settings[MOST]) {
                cells[worst].heldBack++;
            }
        }

        private void passCells() {
            for (int i = 0; i < count; i++) {
                cells[i].pass(current, told);
            }
            for (int i = 0; i + 1 < count; i++) {
                int goes = (cells[i + 1].warmth - cells[i].warmth) * told.settings[TOUCH] / 256;
                cells[i].warmth += goes;
                cells[i + 1].warmth -= goes;
            }
        }

        private void balance() {
            shuntedBits = 0;
            if (watch.latched != 0) {
                return;
            }
            if (told.settings[MODE] == SHUNTS) {
                shuntCells();
            } else if (told.settings[MODE] == SHUTTLES) {
                for (int i = time % 2 == 1 ? 0 : 1; i + 1 < count; i += 2) {
                    shuttle(cells[i], cells[i + 1]);
                }
            }
        }

        /** All are chosen ahead of the first SHUNT: none changes the choice of the next one. */
        private void shuntCells() {
            int atOnce = board >= told.settings[HOT] ? 0 : told.settings[SHUNTS_AT_ONCE];
            int above = leastPart() + told.settings[BAND];
            for (int k = 0; k < atOnce; k++) {
                int next = greatestAbove(above, shuntedBits);
                if (next == NONE) {
                    break;
                }
                shuntedBits |= 1 << next;
            }
            for (int i = 0; i < count; i++) {
                if ((shuntedBits >> i & 1) != 0) {
                    shunted += cells[i].giveShunt(told.settings[SHUNT]);
                    board += 3;
                }
            }
        }

        private int greatestAbove(int above, int asideBits) {
            int found = NONE;
            int greatest = above;
            for (int i = 0; i < count; i++) {
                if ((asideBits >> i & 1) == 0 && cells[i].part > greatest) {
                    found = i;
                    greatest = cells[i].part;
                }
            }
            return found;
        }

        private void shuttle(Cell one, Cell other) {
            if (Math.abs(one.part - other.part) <= told.settings[BAND]) {
                return;
            }
            Cell from = one.part > other.part ? one : other;
            Cell to = one.part > other.part ? other : one;
            int leaves = Math.min(told.settings[SHUTTLE], from.charge);
            int comes = Math.min(leaves * told.settings[SHARE] / 100, to.full() - to.charge);
            from.takeOrGive(-leaves);
            to.takeOrGive(comes);
            moved += leaves;
            lost += leaves - comes;
        }

        private void measure() {
            rested = current == 0 ? rested + 1 : 0;
            boolean resting = rested == told.settings[RESTING];
            for (int i = 0; i < count; i++) {
                cells[i].measure(current, currentAhead);
                if (resting) {
                    cells[i].reckonAtRest();
                }
            }
            if (areActual(MINUS_BIT | PLUS_BIT)) {
                bus = packAt(current);
            }
            if (state == CLOSED) {
                taper();
            }
        }

        private void taper() {
            int from = told.settings[TAPER];
            int request = told.settings[REQUEST];
            if (from <= 0 || request <= 0) {
                return;
            }
            for (int i = 0; i < count; i++) {
                if (cells[i].voltsAt(current) >= from) {
                    int less = request * 9 / 10;
                    told.settings[REQUEST] = less < 100 ? 0 : less;
                    return;
                }
            }
        }

        /** Downward, so that the first CELL of each FAULT is what stays. */
        private int faultsOfCells() {
            int[] settings = told.settings;
            int high = NONE;
            int low = NONE;
            int hot = NONE;
            int cold = NONE;
            for (int i = count - 1; i >= 0; i--) {
                int volts = cells[i].voltsAt(current);
                int warmth = cells[i].warmth;
                high = volts > settings[HIGH] ? i : high;
                low = volts < settings[LOW] ? i : low;
                hot = warmth > settings[HOT] ? i : hot;
                cold = current > 0 && warmth < settings[COLD] ? i : cold;
            }
            int so = high != NONE ? watch.blame(FAULT_HIGH, high) : 0;
            so |= low != NONE ? watch.blame(FAULT_LOW, low) : 0;
            so |= hot != NONE || board > settings[HOT] ? watch.blame(FAULT_HOT, hot) : 0;
            so |= cold != NONE ? watch.blame(FAULT_COLD, cold) : 0;
            return so;
        }

        private int faultsOfPack() {
            int[] settings = told.settings;
            boolean much = state == CLOSED && Math.abs(settings[REQUEST]) > settings[MOST];
            int so = much ? BIT_MUCH : 0;
            so |= watch.leakBit(settings[INSULATION] < settings[LEAST_INSULATION]);
            so |= partSpread() > settings[SPREAD] ? BIT_APART : 0;
            so |= watch.weldBit(actualBits() != orderedBits());
            so |= watch.silentBit(settings[PATIENCE]);
            so |= settings[INTERLOCK] == 0 ? BIT_LOOSE : 0;
            return so;
        }

        private void keepTrack() {
            trace.add(current, packAt(current), partSpread());
            for (int i = 0; i < count; i++) {
                cells[i].keepTrack(current);
            }
        }

        private void obeyRules() {
            int[] rules = told.rules;
            for (int i = 0; i < told.ruleCount; i++) {
                int from = i * Told.RULE_WIDTH;
                int is = tell(rules[from]);
                int limit = rules[from + 2];
                if (rules[from + 1] == 1 ? is > limit : is < limit) {
                    told.settings[rules[from + 3]] = rules[from + 4];
                }
            }
        }

        // ---- what callers and RULES ask for

        int tell(int what) {
            switch (what) {
                case 0: return count;
                case 1: return state;
                case 2: return bus;
                case 3: return packAt(current);
                case 4: return current;
                case 5: return watch.latched;
                case 6: return time;
                case 7: return board;
                case 8: return rested;
                case 9: return shunted;
                case 10: return moved;
                case 11: return lost;
                case 12: return told.pieceCount;
                case 13: return shuntedBits;
                case 14: return actualBits();
                case 15: return told.zoneCount;
                default: return NOTHING;
            }
        }

        int tellOf(int cell, int what) {
            return hasCell(cell) ? cells[cell].tellWhat(what, current) : NOTHING;
        }

        int tellModule(int from, int to, int what) {
            int volts = 0;
            int warmest = WARMTH_LEAST;
            for (int i = from; i < to; i++) {
                volts += cells[i].voltsAt(current);
                warmest = i == from ? cells[i].warmth : Math.max(warmest, cells[i].warmth);
            }
            switch (what) {
                case 0: return volts;
                case 1: return warmest;
                case 2: return spreadOf(from, to);
                case 3: return to - from;
                default: return NOTHING;
            }
        }
    }

    /** The latest STEPS; states are made once, when first needed, and used again. */
    private static final class History {
        final State[] states = new State[STEPS_MOST];
        int first;
        int count;

        void keep(State state) {
            if (count == STEPS_MOST) {
                first = place(1);
                count--;
            }
            stateAt(place(count)).become(state);
            count++;
        }

        /** For a count above 0 alone. */
        void takeBackInto(State state) {
            count--;
            state.become(stateAt(place(count)));
        }

        void become(History other) {
            first = 0;
            count = other.count;
            for (int i = 0; i < count; i++) {
                stateAt(i).become(other.stateAt(other.place(i)));
            }
        }

        private int place(int i) {
            return (first + i) % STEPS_MOST;
        }

        private State stateAt(int i) {
            if (states[i] == null) {
                states[i] = new State();
            }
            return states[i];
        }
    }
}
