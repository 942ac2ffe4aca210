import java.util.Arrays;

/** A ship that has struck: where her water goes, and what may be done about it. */
public final class WhichHold {
    public static final int BAD = -1, STATE = -2, FULL = -3, NONE = -4;

    private static final int MOST_HOLDS = 8, MOST_DOORS = 10, MOST_HOLES = 4, MOST_PUMPS = 3;
    private static final int MOST_ORDERS = 12, MOST_READ = 10, LAST_MINUTE = 999;
    private static final int MOST_BYTES = 400, MOST_CELLS = 40, MOST_SOUNDED = 8, DEEPEST_SOUNDED = 99;
    private static final int SHEETS = 4, LANES = 3, IMAGES = 2;
    private static final int LONGEST_RUN = 120, LONGEST_SEARCH = 60, LONGEST_ROW = 3, MOST_CREWS = 3;
    private static final int TOP = 12, VALVE_RATE = 5, GREATEST_HOLE_RATE = 20;

    private static final int CREWS = 0, SINKS = 1, LISTS = 2, TRIMS = 3, SAFE = 4, RULES = 5;
    private static final int SHUT = 0, OPEN = 1, SAIL = 2, PUMP = 3, VALVE = 4;
    private static final int TO_COME = 0, UNDER_WAY = 1, DONE = 2, FAILED = 3;

    /** How a HOLE is told by best(), above every number of a DOOR. */
    private static final int HOLE_CODE = 20;

    private final Reader reader = new Reader();
    private final State present = new State();
    private final State trial = new State();
    private final State[] images = new State[IMAGES];
    private final boolean[] kept = new boolean[IMAGES];
    private final Search search = new Search();
    private final Scale scale = new Scale();
    private final Soundings soundings = new Soundings();
    private final Sheet[] sheets = new Sheet[SHEETS];
    private Plan plan = new Plan();
    private Plan draft = new Plan();
    private int latestFault;
    private int latestTear;

    public WhichHold() {
        for (int i = 0; i < IMAGES; i++) {
            images[i] = new State();
        }
        for (int k = 0; k < SHEETS; k++) {
            sheets[k] = new Sheet();
        }
        plan.clear();
        present.startFrom(plan);
    }

    // ---- the text, the ship

    public int feed(long v) {
        return reader.append(v);
    }

    public int end(int n) {
        return reader.cut(n);
    }

    public int text() {
        reader.parse(draft);
        latestFault = reader.found;
        if (latestFault != 0) {
            return -10 - reader.foundAt;
        }
        Plan old = plan;
        plan = draft;
        draft = old;
        present.startFrom(plan);
        forgetImages();
        search.forget();
        return reader.lines;
    }

    public int fault() {
        return latestFault;
    }

    public int hold(int h, int what) {
        if (!isHold(h)) {
            return BAD;
        }
        switch (what) {
            case 0: return plan.tons[h];
            case 1: return plan.side[h];
            case 2: return plan.arm[h];
            case 3: return present.water[h];
            case 4: return heightIn(plan.tons[h], present.water[h]);
            case 5: return present.valve[h];
            default: return BAD;
        }
    }

    public int door(int d, int what) {
        if (!isDoor(d)) {
            return BAD;
        }
        switch (what) {
            case 0: return plan.doorFrom[d];
            case 1: return plan.doorTo[d];
            case 2: return plan.sill[d];
            case 3: return plan.doorRate[d];
            case 4: return plan.doorTime[d];
            case 5: return present.open[d];
            case 6: return present.orders.isOnDoor(d) ? 1 : 0;
            default: return BAD;
        }
    }

    public int hole(int h, int what) {
        if (!isHole(h)) {
            return BAD;
        }
        switch (what) {
            case 0: return plan.holeAt[h];
            case 1: return plan.holeRate[h];
            case 2: return plan.holeTime[h];
            case 3: return present.sail[h];
            case 4: return present.tonsThrough(plan, h);
            default: return BAD;
        }
    }

    public int pump(int p, int what) {
        if (!isPump(p)) {
            return BAD;
        }
        switch (what) {
            case 0: return plan.pumpRate[p];
            case 1: return present.pumpAt[p];
            default: return BAD;
        }
    }

    public int rule(int what) {
        return what < 0 || what >= RULES ? BAD : plan.rules[what];
    }

    public int put(int h, int v) {
        if (!isHold(h) || v < 0 || v > plan.tons[h]) {
            return BAD;
        }
        if (present.why != 0) {
            return STATE;
        }
        int was = present.water[h];
        present.water[h] = v;
        present.seeWhetherSinks(plan);
        search.forget();
        return was;
    }

    // ---- minute by minute

    public int go(int n) {
        if (n < 1 || n > LONGEST_RUN) {
            return BAD;
        }
        for (int i = 0; i < n; i++) {
            present.passMinute(plan);
        }
        search.forget();
        return present.waterInAll(plan);
    }

    public int now(int what) {
        scale.weigh(plan, present.water, 0);
        switch (what) {
            case 0: return present.minute;
            case 1: return scale.total;
            case 2: return scale.list;
            case 3: return scale.trim;
            case 4: return present.why;
            case 5: return present.seen;
            case 6: return present.orders.tally(UNDER_WAY);
            case 7: return present.orders.tally(FAILED);
            default: return BAD;
        }
    }

    public int keep(int i) {
        if (i < 0 || i >= IMAGES) {
            return BAD;
        }
        int was = kept[i] ? 1 : 0;
        images[i].copyFrom(present);
        kept[i] = true;
        return was;
    }

    public int back(int i) {
        if (i < 0 || i >= IMAGES) {
            return BAD;
        }
        if (!kept[i]) {
            return STATE;
        }
        present.copyFrom(images[i]);
        search.forget();
        return present.minute;
    }

    // ---- orders

    public int order(int minute, int kind, int what, int where) {
        return tell(minute, kind, what, where);
    }

    public int given(int k, int what) {
        Orders orders = present.orders;
        if (k < 0 || k >= orders.size) {
            return BAD;
        }
        switch (what) {
            case 0: return orders.minute[k];
            case 1: return orders.kind[k];
            case 2: return orders.what[k];
            case 3: return orders.where[k];
            case 4: return orders.how[k];
            case 5: return orders.ends[k];
            default: return BAD;
        }
    }

    public int recall() {
        return present.orders.failThoseToCome();
    }

    // ---- runs

    public int run(int n, int what) {
        if (n < 1 || n > LONGEST_RUN || what < 0 || what > 6) {
            return BAD;
        }
        trial.copyFrom(present);
        int sinksAfter = trial.minutesAfloat(plan, n);
        scale.weigh(plan, trial.water, 0);
        switch (what) {
            case 0: return sinksAfter;
            case 1: return trial.why;
            case 2: return scale.total;
            case 3: return scale.list;
            case 4: return scale.trim;
            case 5: return trial.orders.tally(FAILED) - present.orders.tally(FAILED);
            default: return trial.greatestList;
        }
    }

    public int water(int n, int h) {
        if (n < 1 || n > LONGEST_RUN || !isHold(h)) {
            return BAD;
        }
        trial.copyFrom(present);
        trial.minutesAfloat(plan, n);
        return trial.water[h];
    }

    public int free(int n) {
        if (n < 1 || n > LONGEST_RUN) {
            return BAD;
        }
        trial.copyWithoutOrders(present);
        return trial.minutesAfloat(plan, n);
    }

    public int best(int k, int n, int what) {
        if (k < 0 || k > LONGEST_ROW || n < 1 || n > LONGEST_SEARCH) {
            return BAD;
        }
        boolean asksOrder = what >= 10 && what - 10 < k;
        if (what != 0 && what != 1 && !asksOrder) {
            return BAD;
        }
        if (!search.findBest(plan, present, trial, k, n)) {
            return STATE;
        }
        if (asksOrder) {
            return search.bestCode(what - 10);
        }
        return what == 0 ? search.bestMinutes : search.bestWater;
    }

    public int latest(int d, int n) {
        if (!isDoor(d) || n < 1 || n > LONGEST_SEARCH) {
            return BAD;
        }
        if (!isOpenAndIdle(d)) {
            return STATE;
        }
        for (int after = n; after >= 0; after--) {
            if (minutesIfShut(d, after, n) == NONE) {
                return after;
            }
        }
        return NONE;
    }

    public int helps(int n) {
        if (n < 1 || n > LONGEST_SEARCH) {
            return BAD;
        }
        trial.copyWithoutOrders(present);
        int untouched = trial.minutesAfloat(plan, n);
        int bits = 0;
        for (int d = 0; d < plan.doors; d++) {
            if (isOpenAndIdle(d) && isLater(minutesIfShut(d, 0, n), untouched)) {
                bits |= 1 << d;
            }
        }
        return bits;
    }

    // ---- what may go

    public int together(int holds) {
        if (holds < 0 || holds >= 1 << plan.holds) {
            return BAD;
        }
        return floatsWithFull(holds) ? 1 : 0;
    }

    public int beside(int h, int what) {
        if (!isHold(h) || what < 0 || what > 1) {
            return BAD;
        }
        if (what == 0) {
            return partnersOf(h);
        }
        int all = (1 << plan.holds) - 1;
        for (int g = 0; g < plan.holds; g++) {
            if (partnersOf(g) != (all & ~(1 << g))) {
                return 0;
            }
        }
        return 1;
    }

    public int most(int what) {
        if (what < 0 || what > 1) {
            return BAD;
        }
        int best = NONE;
        int size = NONE;
        for (int set = 0; set < 1 << plan.holds; set++) {
            if (Integer.bitCount(set) > size && floatsWithFull(set)) {
                best = set;
                size = Integer.bitCount(set);
            }
        }
        return what == 0 ? size : best;
    }

    public int upright(int what) {
        if (what < 0 || what > 2) {
            return BAD;
        }
        int set = mostUprightSet();
        if (set == NONE || what == 0) {
            return set;
        }
        scale.weigh(plan, present.water, set);
        return what == 1 ? scale.list : scale.trim;
    }

    public int men(int doors) {
        if (doors < 0 || doors >= 1 << plan.doors) {
            return BAD;
        }
        int all = (1 << plan.holds) - 1;
        return all & ~reachedFrom(1 << plan.rules[SAFE], openDoors() & ~doors);
    }

    public int dry(int h, int what) {
        if (!isHold(h) || what < 0 || what > 1) {
            return BAD;
        }
        int wet = holdsWithHoles();
        if ((wet >> h & 1) == 1) {
            return NONE;
        }
        int fewest = fewestDoorsAround(h, wet);
        return what == 0 ? Integer.bitCount(fewest) : fewest;
    }

    // ---- what was sounded

    public int sound(int v) {
        return soundings.append(v);
    }

    public int wipe() {
        return soundings.clear();
    }

    public int rates(int h) {
        return isHold(h) ? soundings.ratesThatFit(plan.tons[h]) : BAD;
    }

    // ---- sheets

    public int sheet(int k, int lane, int n) {
        if (k < 0 || k >= SHEETS || lane < 0 || lane >= LANES || n > MOST_CELLS) {
            return BAD;
        }
        if (n < 0) {
            return -10 - Sheet.SIZE;
        }
        sheets[k].renew(lane, n);
        return 1;
    }

    public int lay(int k, int i, int v) {
        if (k < 0 || k >= SHEETS) {
            return BAD;
        }
        int tear = sheets[k].tearAt(sheets[k].lane, i, 1);
        if (tear != 0) {
            return -10 - tear;
        }
        sheets[k].store(i, v);
        return 1;
    }

    public int read(int k, int lane, int f, int n) {
        if (k < 0 || k >= SHEETS || lane < 0 || lane >= LANES || n < 0 || n > MOST_READ) {
            return BAD;
        }
        Sheet sheet = sheets[k];
        int before = present.orders.size;
        int tear = 0;
        int came = 0;
        while (came < n) {
            tear = sheet.tearAt(lane, f + 4 * came, 4);
            if (tear != 0) {
                break;
            }
            int answer = tellFrom(sheet, f + 4 * came);
            if (answer < 0) {
                present.orders.size = before;
                return answer == BAD ? -20 - came : answer;
            }
            came++;
        }
        latestTear = tear;
        return came;
    }

    public int torn() {
        return latestTear;
    }

    public int count(int what) {
        switch (what) {
            case 0: return plan.holds;
            case 1: return plan.doors;
            case 2: return plan.holes;
            case 3: return plan.pumps;
            case 4: return present.orders.size;
            case 5: return (kept[0] ? 1 : 0) + (kept[1] ? 1 : 0);
            case 6: return soundings.size;
            case 7: return reader.length;
            case 8: return sheets[0].size;
            default: return BAD;
        }
    }

    // ---- what the calls above share

    private void forgetImages() {
        for (int i = 0; i < IMAGES; i++) {
            kept[i] = false;
        }
    }

    private boolean isHold(int h) {
        return h >= 0 && h < plan.holds;
    }

    private boolean isDoor(int d) {
        return d >= 0 && d < plan.doors;
    }

    private boolean isHole(int h) {
        return h >= 0 && h < plan.holes;
    }

    private boolean isPump(int p) {
        return p >= 0 && p < plan.pumps;
    }

    private int tell(int minute, int kind, int what, int where) {
        if (minute < present.minute || minute > LAST_MINUTE || !isOrder(kind, what, where)) {
            return BAD;
        }
        return present.orders.append(minute, kind, what, where);
    }

    private boolean isOrder(int kind, int what, int where) {
        switch (kind) {
            case SHUT:
            case OPEN: return isDoor(what);
            case SAIL: return isHole(what);
            case PUMP: return isPump(what) && (where == NONE || isHold(where));
            case VALVE: return isHold(what) && (where == 0 || where == 1);
            default: return false;
        }
    }

    private int tellFrom(Sheet sheet, int first) {
        // a sum that wraps around is below 0, so that it is refused as an earlier minute
        int minute = present.minute + sheet.cells[first];
        return tell(minute, sheet.cells[first + 1], sheet.cells[first + 2], sheet.cells[first + 3]);
    }

    private boolean isOpenAndIdle(int d) {
        return present.open[d] == 1 && !present.orders.isOnDoor(d);
    }

    private int minutesIfShut(int d, int after, int n) {
        trial.copyWithoutOrders(present);
        trial.orders.append(present.minute + after, SHUT, d, 0);
        return trial.minutesAfloat(plan, n);
    }

    /** Whether to sink after so many minutes (NONE: not to) is later than after the others. */
    private static boolean isLater(int minutes, int others) {
        return others != NONE && (minutes == NONE || minutes > others);
    }

    private boolean floatsWithFull(int set) {
        scale.weigh(plan, present.water, set);
        return scale.whySinks(plan) == 0;
    }

    private int partnersOf(int h) {
        int bits = 0;
        for (int g = 0; g < plan.holds; g++) {
            if (g != h && floatsWithFull(1 << g | 1 << h)) {
                bits |= 1 << g;
            }
        }
        return bits;
    }

    private int mostUprightSet() {
        int best = NONE;
        int bestKey = 0;
        for (int set = 0; set < 1 << plan.holds; set++) {
            if (floatsWithFull(set)) {
                // LIST, TRIM, number of HOLDS: a set that floats has a TRIM below 100
                int key = (scale.list * 100 + scale.trim) * 10 + Integer.bitCount(set);
                if (best == NONE || key < bestKey) {
                    best = set;
                    bestKey = key;
                }
            }
        }
        return best;
    }

    private int openDoors() {
        int bits = 0;
        for (int d = 0; d < plan.doors; d++) {
            bits |= present.open[d] << d;
        }
        return bits;
    }

    private int holdsWithHoles() {
        int bits = 0;
        for (int i = 0; i < plan.holes; i++) {
            bits |= 1 << plan.holeAt[i];
        }
        return bits;
    }

    /** HOLDS to which a way leads from some through those DOORS. */
    private int reachedFrom(int holds, int doors) {
        int reached = holds;
        for (int round = 0; round < plan.holds; round++) {
            for (int d = 0; d < plan.doors; d++) {
                int ends = 1 << plan.doorFrom[d] | 1 << plan.doorTo[d];
                if ((doors >> d & 1) == 1 && (reached & ends) != 0) {
                    reached |= ends;
                }
            }
        }
        return reached;
    }

    /** Sets come by their bits, so that of several as small the first is the least. */
    private int fewestDoorsAround(int h, int wet) {
        int open = openDoors();
        int best = open;
        for (int set = 0; set < 1 << plan.doors; set++) {
            boolean fewer = Integer.bitCount(set) < Integer.bitCount(best);
            if (fewer && (set & ~open) == 0 && (reachedFrom(wet, open & ~set) >> h & 1) == 0) {
                best = set;
            }
        }
        return best;
    }

    /** What a text tells and no minute changes. */
    private static final class Plan {
        int holds, doors, holes, pumps;
        final int[] tons = new int[MOST_HOLDS];
        final int[] side = new int[MOST_HOLDS];
        final int[] arm = new int[MOST_HOLDS];
        final int[] firstWater = new int[MOST_HOLDS];
        final int[] doorFrom = new int[MOST_DOORS];
        final int[] doorTo = new int[MOST_DOORS];
        final int[] sill = new int[MOST_DOORS];
        final int[] doorRate = new int[MOST_DOORS];
        final int[] doorTime = new int[MOST_DOORS];
        final int[] firstOpen = new int[MOST_DOORS];
        final int[] holeAt = new int[MOST_HOLES];
        final int[] holeRate = new int[MOST_HOLES];
        final int[] holeTime = new int[MOST_HOLES];
        final int[] pumpRate = new int[MOST_PUMPS];
        final int[] firstAt = new int[MOST_PUMPS];
        final int[] rules = new int[RULES];

        void clear() {
            holds = 0;
            doors = 0;
            holes = 0;
            pumps = 0;
            rules[CREWS] = 1;
            rules[SINKS] = 400;
            rules[LISTS] = 40;
            rules[TRIMS] = 60;
            rules[SAFE] = 0;
        }
    }

    /** THE TAPE, and how a text is read from it. */
    private static final class Reader {
        static final int NO_TOKEN = 1, MISPLACED = 2, OUT_OF_BOUNDS = 3, TWICE = 4, TOO_MANY = 5;
        static final int END = 0, BLANK = 1, NAME = 2, NUMBER = 3, SIGN = 4, OTHER = 5;
        static final int HOLD_LINE = RULES, DOOR_LINE = 6, HOLE_LINE = 7, PUMP_LINE = 8;
        static final int MOST_FIGURES = 3;

        final byte[] tape = new byte[MOST_BYTES];
        int length, lines, found, foundAt;
        private final boolean[] told = new boolean[RULES];
        private Plan target;
        private int place, behind, kind;

        int append(long v) {
            if (length + 8 > MOST_BYTES) {
                return FULL;
            }
            for (int shift = 56; shift >= 0; shift -= 8) {
                tape[length++] = (byte) (v >> shift);
            }
            return length;
        }

        int cut(int n) {
            if (n < 0 || n > length) {
                return BAD;
            }
            int had = length;
            length = n;
            return had;
        }

        /** Reads the whole TAPE into a plan and leaves THE TAPE empty. */
        void parse(Plan into) {
            target = into;
            startAnew();
            // a line has more than one byte, so that there are fewer lines than bytes
            for (int i = 0; i <= MOST_BYTES; i++) {
                nextToken();
                if (found != 0 || kind == END) {
                    break;
                }
                switch (lineBegun()) {
                    case HOLD_LINE: takeHold(); break;
                    case DOOR_LINE: takeDoor(); break;
                    case HOLE_LINE: takeHole(); break;
                    case PUMP_LINE: takePump(); break;
                    case CREWS: takeRule(CREWS, 1, MOST_CREWS); break;
                    case SINKS: takeRule(SINKS, 1, 800); break;
                    case LISTS: takeRule(LISTS, 1, 99); break;
                    case TRIMS: takeRule(TRIMS, 1, 99); break;
                    case SAFE: takeRule(SAFE, 0, target.holds - 1); break;
                    default: refuse(MISPLACED); break;
                }
                lines++;
            }
            length = 0;
        }

        private void startAnew() {
            target.clear();
            for (int rule = 0; rule < RULES; rule++) {
                told[rule] = false;
            }
            behind = 0;
            lines = 0;
            found = 0;
        }

        /** The first FAULT met stands; what is asked behind it is not read any more. */
        private void refuse(int fault) {
            if (found == 0) {
                found = fault;
                foundAt = place;
            }
        }

        private void nextToken() {
            if (found != 0) {
                return;
            }
            place = endOfRun(behind, BLANK);
            kind = place < length ? kindOf(tape[place]) : END;
            behind = kind == NAME || kind == NUMBER ? endOfRun(place, kind) : place + 1;
            if (kind == OTHER || (kind == NUMBER && behind - place > MOST_FIGURES)) {
                refuse(NO_TOKEN);
            }
        }

        private int endOfRun(int from, int ofKind) {
            int i = from;
            while (i < length && kindOf(tape[i]) == ofKind) {
                i++;
            }
            return i;
        }

        private static int kindOf(int sign) {
            if (sign == ' ') {
                return BLANK;
            }
            if (sign >= 'a' && sign <= 'z') {
                return NAME;
            }
            if (sign >= '0' && sign <= '9') {
                return NUMBER;
            }
            return sign == ';' ? SIGN : OTHER;
        }

        private int lineBegun() {
            return spells("hold") ? HOLD_LINE
                : spells("door") ? DOOR_LINE
                : spells("hole") ? HOLE_LINE
                : spells("pump") ? PUMP_LINE
                : spells("crews") ? CREWS
                : spells("sinks") ? SINKS
                : spells("lists") ? LISTS
                : spells("trims") ? TRIMS
                : spells("safe") ? SAFE
                : NONE;
        }

        private boolean spells(String name) {
            if (kind != NAME || behind - place != name.length()) {
                return false;
            }
            for (int i = 0; i < name.length(); i++) {
                if (tape[place + i] != name.charAt(i)) {
                    return false;
                }
            }
            return true;
        }

        /** The NUMBER that stands next, or 0 behind a FAULT. */
        private int takeNumber(int least, int greatest) {
            nextToken();
            if (found != 0) {
                return 0;
            }
            if (kind != NUMBER) {
                refuse(MISPLACED);
                return 0;
            }
            int value = 0;
            for (int i = place; i < behind; i++) {
                value = value * 10 + tape[i] - '0';
            }
            if (value < least || value > greatest) {
                refuse(OUT_OF_BOUNDS);
                return 0;
            }
            return value;
        }

        private void takeSign() {
            nextToken();
            if (kind != SIGN) {
                refuse(MISPLACED);
            }
        }

        private void takeHold() {
            int h = target.holds;
            if (h >= MOST_HOLDS) {
                refuse(TOO_MANY);
                return;
            }
            target.tons[h] = takeNumber(1, 99);
            target.side[h] = takeNumber(0, 2);
            target.arm[h] = takeNumber(0, 18);
            target.firstWater[h] = takeNumber(0, target.tons[h]);
            takeSign();
            target.holds++;
        }

        private void takeDoor() {
            int d = target.doors;
            if (d >= MOST_DOORS) {
                refuse(TOO_MANY);
                return;
            }
            target.doorFrom[d] = takeNumber(0, target.holds - 1);
            target.doorTo[d] = takeNumber(0, target.holds - 1);
            if (target.doorTo[d] == target.doorFrom[d]) {
                refuse(OUT_OF_BOUNDS);
            }
            target.sill[d] = takeNumber(0, TOP);
            target.doorRate[d] = takeNumber(1, 9);
            target.doorTime[d] = takeNumber(1, 9);
            nextToken();
            boolean shut = spells("shut");
            target.firstOpen[d] = shut ? 0 : 1;
            if (shut) {
                nextToken();
            }
            if (kind != SIGN) {
                refuse(MISPLACED);
            }
            target.doors++;
        }

        private void takeHole() {
            int i = target.holes;
            if (i >= MOST_HOLES) {
                refuse(TOO_MANY);
                return;
            }
            target.holeAt[i] = takeNumber(0, target.holds - 1);
            target.holeRate[i] = takeNumber(1, GREATEST_HOLE_RATE);
            target.holeTime[i] = takeNumber(1, 20);
            takeSign();
            target.holes++;
        }

        private void takePump() {
            int p = target.pumps;
            if (p >= MOST_PUMPS) {
                refuse(TOO_MANY);
                return;
            }
            target.pumpRate[p] = takeNumber(1, 9);
            target.firstAt[p] = takeNumber(0, target.holds - 1);
            takeSign();
            target.pumps++;
        }

        private void takeRule(int rule, int least, int greatest) {
            if (told[rule]) {
                refuse(TWICE);
                return;
            }
            told[rule] = true;
            target.rules[rule] = takeNumber(least, greatest);
            takeSign();
        }
    }

    /** WATER in all, LIST and TRIM of some water. */
    private static final class Scale {
        int total, list, trim;

        /** Weighs the water, with HOLDS of a set (bits) taken as full. */
        void weigh(Plan plan, int[] water, int full) {
            total = 0;
            int lean = 0;
            int tip = 0;
            for (int h = 0; h < plan.holds; h++) {
                int tons = (full >> h & 1) == 1 ? plan.tons[h] : water[h];
                total += tons;
                lean += tons * (plan.side[h] - 1);
                tip += tons * (plan.arm[h] - 9);
            }
            list = Math.abs(lean) / 2;
            trim = Math.abs(tip) / 10;
        }

        int whySinks(Plan plan) {
            if (total >= plan.rules[SINKS]) {
                return 1;
            }
            if (list > plan.rules[LISTS]) {
                return 2;
            }
            return trim > plan.rules[TRIMS] ? 3 : 0;
        }
    }

    /** ORDERS by their numbers. */
    private static final class Orders {
        int size;
        final int[] minute = new int[MOST_ORDERS];
        final int[] kind = new int[MOST_ORDERS];
        final int[] what = new int[MOST_ORDERS];
        final int[] where = new int[MOST_ORDERS];
        final int[] how = new int[MOST_ORDERS];
        final int[] ends = new int[MOST_ORDERS];

        int append(int atMinute, int ofKind, int forWhat, int toWhere) {
            if (size >= MOST_ORDERS) {
                return FULL;
            }
            minute[size] = atMinute;
            kind[size] = ofKind;
            what[size] = forWhat;
            where[size] = toWhere;
            how[size] = TO_COME;
            ends[size] = NONE;
            return size++;
        }

        void copyFrom(Orders other) {
            size = other.size;
            System.arraycopy(other.minute, 0, minute, 0, size);
            System.arraycopy(other.kind, 0, kind, 0, size);
            System.arraycopy(other.what, 0, what, 0, size);
            System.arraycopy(other.where, 0, where, 0, size);
            System.arraycopy(other.how, 0, how, 0, size);
            System.arraycopy(other.ends, 0, ends, 0, size);
        }

        int tally(int state) {
            int sum = 0;
            for (int i = 0; i < size; i++) {
                if (how[i] == state) {
                    sum++;
                }
            }
            return sum;
        }

        boolean isOnDoor(int d) {
            for (int i = 0; i < size; i++) {
                if (how[i] == UNDER_WAY && (kind[i] == SHUT || kind[i] == OPEN) && what[i] == d) {
                    return true;
                }
            }
            return false;
        }

        boolean isOnHole(int h) {
            for (int i = 0; i < size; i++) {
                if (how[i] == UNDER_WAY && kind[i] == SAIL && what[i] == h) {
                    return true;
                }
            }
            return false;
        }

        int failThoseToCome() {
            int sum = tally(TO_COME);
            for (int i = 0; i < size; i++) {
                if (how[i] == TO_COME) {
                    how[i] = FAILED;
                }
            }
            return sum;
        }
    }

    /** All that minutes change. */
    private static final class State {
        int minute, why, seen, greatestList;
        final int[] water = new int[MOST_HOLDS];
        final int[] valve = new int[MOST_HOLDS];
        final int[] open = new int[MOST_DOORS];
        final int[] sail = new int[MOST_HOLES];
        final int[] pumpAt = new int[MOST_PUMPS];
        final Orders orders = new Orders();
        private final Scale scale = new Scale();

        void startFrom(Plan plan) {
            minute = 0;
            System.arraycopy(plan.firstWater, 0, water, 0, MOST_HOLDS);
            System.arraycopy(plan.firstOpen, 0, open, 0, MOST_DOORS);
            System.arraycopy(plan.firstAt, 0, pumpAt, 0, MOST_PUMPS);
            Arrays.fill(valve, 0);
            Arrays.fill(sail, 0);
            orders.size = 0;
            seeWhetherSinks(plan);
        }

        void copyFrom(State other) {
            copyWithoutOrders(other);
            orders.copyFrom(other.orders);
        }

        void copyWithoutOrders(State other) {
            minute = other.minute;
            why = other.why;
            seen = other.seen;
            System.arraycopy(other.water, 0, water, 0, MOST_HOLDS);
            System.arraycopy(other.valve, 0, valve, 0, MOST_HOLDS);
            System.arraycopy(other.open, 0, open, 0, MOST_DOORS);
            System.arraycopy(other.sail, 0, sail, 0, MOST_HOLES);
            System.arraycopy(other.pumpAt, 0, pumpAt, 0, MOST_PUMPS);
            orders.size = 0;
        }

        int waterInAll(Plan plan) {
            scale.weigh(plan, water, 0);
            return scale.total;
        }

        /** Tons that come in a minute through a HOLE by the WATER that is there. */
        int tonsThrough(Plan plan, int i) {
            int h = plan.holeAt[i];
            int rate = sail[i] == 1 ? (plan.holeRate[i] + 1) / 2 : plan.holeRate[i];
            return tonsIn(rate, heightIn(plan.tons[h], water[h]), plan.tons[h] - water[h]);
        }

        void seeWhetherSinks(Plan plan) {
            scale.weigh(plan, water, 0);
            why = scale.whySinks(plan);
            seen = why == 0 ? NONE : minute;
        }

        /** Lets n minutes pass: after how many of them she sinks (NONE: not). */
        int minutesAfloat(Plan plan, int n) {
            int start = minute;
            scale.weigh(plan, water, 0);
            greatestList = scale.list;
            for (int i = 0; i < n && why == 0; i++) {
                passMinute(plan);
                greatestList = Math.max(greatestList, scale.list);
            }
            return why == 0 ? NONE : Math.max(0, seen - start);
        }

        void passMinute(Plan plan) {
            if (why != 0) {
                minute++;
                return;
            }
            endOrders();
            beginOrders(plan);
            comeThroughHoles(plan);
            comeThroughValves(plan);
            for (int d = 0; d < plan.doors; d++) {
                flowThroughDoor(plan, d);
            }
            pumpOut(plan);
            minute++;
            seeWhetherSinks(plan);
        }

        private void endOrders() {
            for (int i = 0; i < orders.size; i++) {
                if (orders.how[i] == UNDER_WAY && orders.ends[i] == minute) {
                    orders.how[i] = DONE;
                    takePlace(orders.kind[i], orders.what[i], orders.where[i]);
                }
            }
        }

        private void takePlace(int kind, int what, int where) {
            switch (kind) {
                case SHUT: open[what] = 0; break;
                case OPEN: open[what] = 1; break;
                case SAIL: sail[what] = 1; break;
                case PUMP: pumpAt[what] = where; break;
                default: valve[what] = where; break;
            }
        }

        private void beginOrders(Plan plan) {
            for (int i = 0; i < orders.size; i++) {
                if (orders.how[i] == TO_COME && orders.minute[i] == minute) {
                    if (canBegin(plan, orders.kind[i], orders.what[i])) {
                        orders.how[i] = UNDER_WAY;
                        orders.ends[i] = minute + minutesFor(plan, orders.kind[i], orders.what[i]);
                    } else {
                        orders.how[i] = FAILED;
                    }
                }
            }
        }

        private boolean canBegin(Plan plan, int kind, int what) {
            if (orders.tally(UNDER_WAY) >= plan.rules[CREWS]) {
                return false;
            }
            switch (kind) {
                case SHUT: return open[what] == 1 && !orders.isOnDoor(what);
                case OPEN: return open[what] == 0 && !orders.isOnDoor(what);
                case SAIL: return sail[what] == 0 && !orders.isOnHole(what);
                default: return true;
            }
        }

        private void comeThroughHoles(Plan plan) {
            for (int i = 0; i < plan.holes; i++) {
                water[plan.holeAt[i]] += tonsThrough(plan, i);
            }
        }

        private void comeThroughValves(Plan plan) {
            for (int h = 0; h < plan.holds; h++) {
                if (valve[h] == 1) {
                    water[h] = Math.min(plan.tons[h], water[h] + VALVE_RATE);
                }
            }
        }

        private void flowThroughDoor(Plan plan, int d) {
            if (open[d] == 0) {
                return;
            }
            int a = plan.doorFrom[d];
            int b = plan.doorTo[d];
            for (int ton = 0; ton < plan.doorRate[d]; ton++) {
                int heightA = heightIn(plan.tons[a], water[a]);
                int heightB = heightIn(plan.tons[b], water[b]);
                // the lower of two unlike HEIGHTS always leaves room
                if (heightA == heightB || Math.max(heightA, heightB) <= plan.sill[d]) {
                    return;
                }
                int toB = heightA > heightB ? 1 : -1;
                water[a] -= toB;
                water[b] += toB;
            }
        }

        private void pumpOut(Plan plan) {
            for (int p = 0; p < plan.pumps; p++) {
                int h = pumpAt[p];
                if (h >= 0 && h < plan.holds) {
                    water[h] = Math.max(0, water[h] - plan.pumpRate[p]);
                }
            }
        }
    }

    /** The BEST row of ORDERS, kept until the ship changes. */
    private static final class Search {
        int bestMinutes, bestWater;
        private final int[] codes = new int[MOST_DOORS + MOST_HOLES];
        private final int[] row = new int[LONGEST_ROW];
        private final int[] bestRow = new int[LONGEST_ROW];
        private final int[] crewFreeAt = new int[MOST_CREWS];
        private int choices, knownLength = NONE, knownMinutes;
        private boolean any;

        void forget() {
            knownLength = NONE;
        }

        int bestCode(int i) {
            return i >= 0 && i < LONGEST_ROW ? bestRow[i] : BAD;
        }

        /** Looks through all rows of k: false, if there are fewer than k ORDERS to choose from. */
        boolean findBest(Plan plan, State from, State trial, int k, int n) {
            listChoices(plan, from);
            if (choices < k) {
                return false;
            }
            if (k == knownLength && n == knownMinutes) {
                return true;
            }
            any = false;
            int rows = 1;
            for (int i = 0; i < k; i++) {
                rows *= choices;
            }
            for (int r = 0; r < rows; r++) {
                if (fillRow(r, k)) {
                    trial.copyWithoutOrders(from);
                    giveRow(plan, trial, k);
                    int minutes = trial.minutesAfloat(plan, n);
                    keepIfBetter(minutes, trial.waterInAll(plan));
                }
            }
            knownLength = k;
            knownMinutes = n;
            return true;
        }

        private void listChoices(Plan plan, State from) {
            choices = 0;
            for (int d = 0; d < plan.doors; d++) {
                if (from.open[d] == 1) {
                    codes[choices++] = d;
                }
            }
            for (int i = 0; i < plan.holes; i++) {
                if (from.sail[i] == 0) {
                    codes[choices++] = HOLE_CODE + i;
                }
            }
        }

        /** Row r of all in their order, if its ORDERS are unlike. */
        private boolean fillRow(int r, int k) {
            int rest = r;
            for (int i = k - 1; i >= 0 && choices > 0; i--) {
                row[i] = codes[rest % choices];
                rest /= choices;
            }
            for (int i = 1; i < k; i++) {
                for (int j = 0; j < i; j++) {
                    if (row[i] == row[j]) {
                        return false;
                    }
                }
            }
            return true;
        }

        /** Each ORDER of the row is told for the minute at which the first crew is free for it. */
        private void giveRow(Plan plan, State trial, int k) {
            Arrays.fill(crewFreeAt, 0);
            for (int i = 0; i < k; i++) {
                int kind = row[i] < HOLE_CODE ? SHUT : SAIL;
                int what = row[i] < HOLE_CODE ? row[i] : row[i] - HOLE_CODE;
                int crew = 0;
                for (int c = 1; c < plan.rules[CREWS]; c++) {
                    if (crewFreeAt[c] < crewFreeAt[crew]) {
                        crew = c;
                    }
                }
                trial.orders.append(trial.minute + crewFreeAt[crew], kind, what, 0);
                crewFreeAt[crew] += minutesFor(plan, kind, what);
            }
        }

        /** Rows come in their order: of those that are as good the first stays. */
        private void keepIfBetter(int minutes, int water) {
            boolean better = isLater(minutes, bestMinutes) || (minutes == bestMinutes && water < bestWater);
            if (!any || better) {
                any = true;
                bestMinutes = minutes;
                bestWater = water;
                System.arraycopy(row, 0, bestRow, 0, LONGEST_ROW);
            }
        }
    }

    /** WATER told by hand, minute behind minute. */
    private static final class Soundings {
        int size;
        private final int[] water = new int[MOST_SOUNDED];

        int append(int v) {
            if (v < 0 || v > DEEPEST_SOUNDED) {
                return BAD;
            }
            if (size >= MOST_SOUNDED) {
                return FULL;
            }
            water[size++] = v;
            return size;
        }

        int clear() {
            int had = size;
            size = 0;
            return had;
        }

        int ratesThatFit(int tons) {
            for (int i = 0; i < size; i++) {
                if (water[i] > tons) {
                    return BAD;
                }
            }
            int bits = 0;
            for (int rate = 1; rate <= GREATEST_HOLE_RATE; rate++) {
                if (fits(rate, tons)) {
                    bits |= 1 << rate;
                }
            }
            return bits;
        }

        private boolean fits(int rate, int tons) {
            for (int i = 1; i < size; i++) {
                int ahead = water[i - 1];
                if (water[i] != ahead + tonsIn(rate, heightIn(tons, ahead), tons - ahead)) {
                    return false;
                }
            }
            return true;
        }
    }

    /** A row of CELLS of one lane, or nothing. */
    private static final class Sheet {
        static final int NULL = 1, INDEX = 2, CAST = 3, SIZE = 4;
        static final int BYTES = 0, SHORTS = 1;

        int lane;
        int size = NONE;
        final int[] cells = new int[MOST_CELLS];

        void renew(int ofLane, int n) {
            lane = ofLane;
            size = n;
            Arrays.fill(cells, 0);
        }

        /** What the machine finds, if some CELLS are taken as of a lane; 0: nothing. */
        int tearAt(int asLane, int first, int some) {
            if (size == NONE) {
                return NULL;
            }
            if (asLane != lane) {
                return CAST;
            }
            return first < 0 || first > size - some ? INDEX : 0;
        }

        void store(int i, int v) {
            cells[i] = lane == BYTES ? (byte) v : lane == SHORTS ? (short) v : v;
        }
    }

    private static int heightIn(int tons, int water) {
        return tons <= 0 ? 0 : TOP * water / tons;
    }

    /** Tons that a RATE lets into a HOLD in a minute. */
    private static int tonsIn(int rate, int height, int room) {
        int come = (rate * (TOP - height) + TOP - 1) / TOP;
        return come < room ? come : room;
    }

    private static int minutesFor(Plan plan, int kind, int what) {
        switch (kind) {
            case SHUT:
            case OPEN: return plan.doorTime[what];
            case SAIL: return plan.holeTime[what];
            default: return 1;
        }
    }
}
