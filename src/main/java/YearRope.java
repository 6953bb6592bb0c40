import java.util.NoSuchElementException;

/**
 * A ropewalk in which years are laid into rope. The document (DOC.md) says what each call promises;
 * words in capitals in comments are its terms.
 */
public final class YearRope {

    public static final int NONE = -1;

    private static final int YARNS_MOST = 10;
    private static final int ROPES_MOST = 8;
    private static final int ORDERS_MOST = 8;
    private static final int TEXTS_MOST = 12;
    private static final int WALK_LINES_MOST = 14;
    private static final int LAW_LINES_MOST = 12;
    private static final int TAPE_MOST = 400;
    private static final int FEED_BYTES = 20;
    private static final int STRENGTH_MOST = 30;
    private static final int FATHOMS_MOST = 200;
    private static final int ROT_MOST = 9;
    private static final int REIGN_MOST = 5;
    private static final int ROPE_LONG_MOST = 400;
    private static final int TAR_MOST = 9;
    private static final int WEAR_MOST = 99;
    private static final int PLIES_MOST = 8;
    private static final int LOAD_MOST = 999;
    private static final int ORDER_LOAD_MOST = 400;
    private static final int ORDER_LONG_MOST = 60;
    private static final int PAY_MOST = 99;
    private static final int PERCENT = 100;
    private static final int SEASON_MOST = 9999;
    private static final int SEASONS_A_CALL = 50;
    private static final int SEASONS_AHEAD = 40;
    private static final int SPAN_SEEDS = 6;
    private static final int MEN_MOST = 5;
    private static final int SHARE_MOST = 9999;
    private static final int COINS_MOST = 9999;
    private static final int LOG_MOST = 60;
    private static final int LOG_WIDTH = 5;
    private static final int ACTS_MOST = 12;
    /** How many sets there are of as many things as the ORDERS (or ROPES) can be. */
    private static final int SETS_MOST = 256;

    private final Tape tape;
    private final WalkReader walkReader;
    private final LawReader lawReader;
    private final Memory memory;
    private final Shed kept;
    private final Law keptRules;
    private final Rope probe;
    private final int[] setRow;
    private final int[] sumRow;
    private final int[] yarnRow;
    private Shed shed;
    private Shed spare;
    private Law rules;
    private Law spareRules;
    private boolean imaged;

    public YearRope() {
        tape = new Tape();
        walkReader = new WalkReader(tape);
        lawReader = new LawReader(tape);
        memory = new Memory();
        kept = new Shed();
        keptRules = new Law();
        probe = new Rope();
        setRow = new int[SETS_MOST];
        sumRow = new int[SETS_MOST];
        yarnRow = new int[YARNS_MOST];
        shed = new Shed();
        spare = new Shed();
        rules = new Law();
        spareRules = new Law();
    }

    // ---- the texts

    public int feed(int a, int b, int c, int d, int e) {
        if (tape.length + FEED_BYTES > TAPE_MOST) {
            return NONE;
        }
        tape.append(a);
        tape.append(b);
        tape.append(c);
        tape.append(d);
        tape.append(e);
        return tape.length;
    }

    public boolean end(int n) {
        if (n < 0 || n > tape.length) {
            return false;
        }
        tape.length = n;
        return true;
    }

    public int walk() throws IllegalArgumentException, UnsupportedOperationException {
        spare.become(shed);
        boolean right = walkReader.read(spare);
        tape.length = 0;
        if (!right) {
            throw new IllegalArgumentException("the text of the walk is wrong");
        }
        if (shed.texts >= TEXTS_MOST) {
            throw new UnsupportedOperationException("there are 12 texts");
        }
        Shed old = shed;
        shed = spare;
        spare = old;
        shed.texts++;
        memory.forget();
        return shed.texts;
    }

    public int law() throws IllegalArgumentException {
        boolean right = lawReader.read(spareRules);
        tape.length = 0;
        if (!right) {
            throw new IllegalArgumentException("the text of the law is wrong");
        }
        Law old = rules;
        rules = spareRules;
        spareRules = old;
        memory.forget();
        return rules.lines;
    }

    public int fault() {
        return tape.fault;
    }

    // ---- what there is

    public int yarn(int yarn, int what) throws IndexOutOfBoundsException, NoSuchElementException {
        Yarn it = yarnOf(yarn);
        switch (what) {
            case 0:
                return it.strength;
            case 1:
                return it.length;
            case 2:
                return it.rot;
            case 3:
                return it.reign;
            case 4:
                return it.price();
            case 5:
                return shed.usesOf(yarn);
            default:
                throw new NoSuchElementException("a yarn has what 0 to 5");
        }
    }

    public int rope(int rope, int what) throws IndexOutOfBoundsException, NoSuchElementException {
        Rope it = ropeOf(rope);
        switch (what) {
            case 0:
                return it.first;
            case 1:
                return it.second;
            case 2:
                return it.third;
            case 3:
                return it.fathoms;
            case 4:
                return it.tar;
            case 5:
                return it.wear;
            case 6:
                return it.whipped ? 1 : 0;
            case 7:
                return it.plies;
            case 8:
                return it.broken ? 1 : 0;
            case 9:
                return it.load;
            case 10:
                return shed.bearing(it, rules);
            case 11:
                return shed.wearing(it, rules);
            case 12:
                return shed.priceOf(it);
            case 13:
                return shed.twinsOf(rope);
            default:
                throw new NoSuchElementException("a rope has what 0 to 13");
        }
    }

    public int order(int order, int what) throws IndexOutOfBoundsException, NoSuchElementException {
        Order it = orderOf(order);
        switch (what) {
            case 0:
                return it.load;
            case 1:
                return it.fathoms;
            case 2:
                return it.pay;
            default:
                throw new NoSuchElementException("an order has what 0 to 2");
        }
    }

    public int bears(int yarn, int second, int third, int length)
            throws IndexOutOfBoundsException, IllegalArgumentException {
        needThree(yarn, second, third);
        needWithin(length, 1, ROPE_LONG_MOST);
        return trialBearing(yarn, second, third, length);
    }

    // ---- acts

    public int lay(int yarn, int second, int third, int fathoms)
            throws IndexOutOfBoundsException, IllegalArgumentException, IllegalStateException,
            UnsupportedOperationException {
        needThree(yarn, second, third);
        needWithin(fathoms, 1, FATHOMS_MOST);
        if (shed.shortest(yarn, second, third) < fathoms) {
            throw new IllegalStateException("a yarn has not so many fathoms");
        }
        needRoomForRope();
        memory.keep(shed);
        return shed.addRope(yarn, second, third, fathoms);
    }

    public int tar(int rope) throws IndexOutOfBoundsException, IllegalStateException {
        Rope it = soundRopeOf(rope);
        memory.keep(shed);
        it.tarOnce();
        return it.tar;
    }

    public boolean whip(int rope) throws IndexOutOfBoundsException, IllegalStateException {
        Rope it = soundRopeOf(rope);
        memory.keep(shed);
        boolean wasNot = !it.whipped;
        it.whipped = true;
        return wasNot;
    }

    public int twice(int rope) throws IndexOutOfBoundsException, IllegalStateException {
        Rope it = ropeOf(rope);
        if (!it.canDouble()) {
            throw new IllegalStateException("it cannot be doubled");
        }
        memory.keep(shed);
        it.makeDouble();
        return it.plies;
    }

    public int cut(int rope, int n)
            throws IndexOutOfBoundsException, IllegalArgumentException, IllegalStateException,
            UnsupportedOperationException {
        needWithin(n, 1, ropeOf(rope).fathoms - 1);
        Rope it = soundRopeOf(rope);
        needRoomForRope();
        memory.keep(shed);
        return shed.addPiece(it, n);
    }

    public int hang(int rope, int load)
            throws IndexOutOfBoundsException, IllegalArgumentException, IllegalStateException {
        ropeOf(rope);
        needWithin(load, 0, LOAD_MOST);
        Rope it = soundRopeOf(rope);
        memory.keep(shed);
        int before = it.load;
        it.load = load;
        return before;
    }

    public int meet(int order, int rope) throws IndexOutOfBoundsException, IllegalStateException {
        Order wanted = orderOf(order);
        Rope it = ropeOf(rope);
        if (!it.isFree() || !wanted.isFilledBy(it.fathoms, shed.bearing(it, rules))) {
            throw new IllegalStateException("the order cannot be met by this rope");
        }
        memory.keep(shed);
        int pay = wanted.pay;
        it.load = wanted.load;
        shed.earned += pay;
        shed.removeOrder(order);
        return pay;
    }

    public int pick(int rope) throws IndexOutOfBoundsException {
        ropeOf(rope);
        memory.keep(shed);
        shed.removeRope(rope);
        return shed.ropeCount;
    }

    public int seasons(int n) throws IllegalArgumentException {
        needWithin(n, 1, SEASONS_A_CALL);
        memory.keep(shed);
        int before = shed.broke;
        shed.pass(n, rules);
        return shed.broke - before;
    }

    // ---- which yarns

    public int best(int length) throws IllegalArgumentException {
        needWithin(length, 1, FATHOMS_MOST);
        int found = NONE;
        int most = NONE;
        for (int i = 0; i < shed.yarnCount; i++) {
            for (int j = i + 1; j < shed.yarnCount; j++) {
                for (int k = j + 1; k < shed.yarnCount; k++) {
                    if (shed.shortest(i, j, k) >= length) {
                        int bearing = trialBearing(i, j, k, length);
                        if (bearing > most) {
                            most = bearing;
                            found = nameOfThree(i, j, k);
                        }
                    }
                }
            }
        }
        return found;
    }

    public int cheapest(int order) throws IndexOutOfBoundsException {
        return cheapestFor(orderOf(order));
    }

    public int oakum(int strength, int rot, int what) throws NoSuchElementException {
        if (what < 0 || what > 2) {
            throw new NoSuchElementException("oakum tells what 0 to 2");
        }
        int fitting = tallyThrees(strength, rot);
        if (what == 0) {
            return fitting;
        }
        return what == 1 ? sureYarns(fitting) : yarnToAsk(fitting);
    }

    public int lasts(int length) throws IllegalArgumentException {
        needWithin(length, 1, FATHOMS_MOST);
        int pieces = 0;
        for (int i = 0; i < shed.yarnCount; i++) {
            pieces += shed.yarns[i].length / length;
        }
        for (int ropes = pieces / 3; ropes > 0; ropes--) {
            if (usablePieces(length, ropes) >= 3 * ropes) {
                return ropes;
            }
        }
        return 0;
    }

    // ---- which orders

    public int can(boolean yarns) {
        int bits = 0;
        if (!yarns) {
            for (int i = 0; i < shed.ropeCount; i++) {
                bits |= ordersMetBy(shed.ropes[i]);
            }
            return bits;
        }
        for (int i = 0; i < shed.orderCount; i++) {
            if (cheapestFor(shed.orders[i]) != NONE) {
                bits |= 1 << i;
            }
        }
        return bits;
    }

    public int most(boolean pay) {
        int sets = 1 << shed.orderCount;
        markMeetable(sets);
        int bestSet = 0;
        int bestPay = 0;
        for (int set = 0; set < sets; set++) {
            if (setRow[set] == 1) {
                bestPay = Math.max(bestPay, shed.payOf(set));
                if (Integer.bitCount(set) > Integer.bitCount(bestSet)) {
                    bestSet = set;
                }
            }
        }
        return pay ? bestPay : bestSet;
    }

    public int cuts(int rope, boolean pay) throws IndexOutOfBoundsException {
        Rope it = ropeOf(rope);
        int borne = shed.ordersBorne(shed.bearing(it, rules));
        int bestSet = 0;
        int bestPay = 0;
        for (int set = 0; set < 1 << shed.orderCount; set++) {
            boolean fits = (set & ~borne) == 0 && shed.fathomsOf(set) <= it.fathoms;
            if (fits && shed.payOf(set) > bestPay) {
                bestPay = shed.payOf(set);
                bestSet = set;
            }
        }
        return pay ? bestPay : bestSet;
    }

    public int walks(int men) throws IllegalArgumentException {
        needWithin(men, 1, MEN_MOST);
        int sets = 1 << shed.orderCount;
        for (int set = 0; set < sets; set++) {
            sumRow[set] = shed.fathomsOf(set);
            setRow[set] = sumRow[set];
        }
        for (int man = 2; man <= men; man++) {
            // from the greatest set down: a smaller one still tells what one man fewer needs
            for (int set = sets - 1; set > 0; set--) {
                setRow[set] = hoursWithOneMore(set);
            }
        }
        return setRow[sets - 1];
    }

    // ---- what ropes bear

    public int share(int rope, int other, int load)
            throws IndexOutOfBoundsException, IllegalArgumentException {
        needShare(rope, other, load);
        return firstShare(bearingOf(rope), bearingOf(other), load);
    }

    public boolean shared(int rope, int other, int load)
            throws IndexOutOfBoundsException, IllegalArgumentException {
        needShare(rope, other, load);
        int own = bearingOf(rope);
        int others = bearingOf(other);
        int part = firstShare(own, others, load);
        return part <= own && load - part <= others;
    }

    public int holds(int rope, boolean change) throws IndexOutOfBoundsException {
        ropeOf(rope);
        spare.become(shed);
        Rope twin = spare.ropes[rope];
        if (change) {
            return seasonsTillChange(twin);
        }
        if (twin.broken) {
            return 0;
        }
        for (int passed = 0; passed < SEASONS_AHEAD; passed++) {
            spare.fray(twin, false, rules);
            if (twin.broken) {
                return passed;
            }
            spare.endSeason();
        }
        return SEASONS_AHEAD;
    }

    public int would(int rope, int what) throws IndexOutOfBoundsException, NoSuchElementException {
        probe.become(ropeOf(rope));
        switch (what) {
            case 0:
                probe.tarOnce();
                break;
            case 1:
                if (probe.canDouble()) {
                    probe.makeDouble();
                }
                break;
            case 2:
                probe.whipped = true;
                break;
            default:
                throw new NoSuchElementException("a rope would be what 0 to 2");
        }
        return shed.bearing(probe, rules);
    }

    public int weakest() {
        int found = NONE;
        int least = 0;
        for (int i = 0; i < shed.ropeCount; i++) {
            Rope it = shed.ropes[i];
            if (!it.broken) {
                int left = shed.bearing(it, rules) - it.load;
                if (found == NONE || left < least) {
                    least = left;
                    found = i;
                }
            }
        }
        return found;
    }

    public int fewest() {
        int loads = shed.hangingLoads();
        int broken = shed.brokenRopes();
        int sets = sumBearings();
        int found = NONE;
        for (int set = 0; set < sets; set++) {
            boolean enough = (set & broken) == 0 && sumRow[set] >= loads;
            if (enough && (found == NONE || Integer.bitCount(set) < Integer.bitCount(found))) {
                found = set;
            }
        }
        return found;
    }

    public int buys(int coins) throws IllegalArgumentException {
        needWithin(coins, 0, COINS_MOST);
        int sets = sumBearings();
        int found = 0;
        for (int set = 1; set < sets; set++) {
            if (sumRow[set] > sumRow[found] && shed.pricesOf(set) <= coins) {
                found = set;
            }
        }
        return found;
    }

    public int skips() {
        int bits = 0;
        for (int i = 0; i < shed.ropeCount; i++) {
            Rope it = shed.ropes[i];
            if (it.isFree() && it.fathoms >= 2 && it.fathoms <= 5) {
                bits |= 1 << i;
            }
        }
        return bits;
    }

    public int loose() {
        int bits = 0;
        for (int i = 0; i < shed.ropeCount; i++) {
            Rope it = shed.ropes[i];
            if (!it.broken && !it.whipped) {
                bits |= 1 << i;
            }
        }
        return bits;
    }

    // ---- trials, the log, what was

    public int trial(int n, boolean fell) throws IllegalArgumentException {
        needWithin(n, 0, SEASONS_AHEAD);
        spare.become(shed);
        spare.pass(n, rules);
        return fell ? spare.fell - shed.fell : spare.brokenRopes();
    }

    public int span(int n, boolean most) throws IllegalArgumentException {
        needWithin(n, 0, SEASONS_AHEAD);
        int least = ROPES_MOST;
        int greatest = 0;
        for (int seed = 1; seed <= SPAN_SEEDS; seed++) {
            spare.become(shed);
            spare.seed = seed;
            spare.pass(n, rules);
            int broken = Integer.bitCount(spare.brokenRopes());
            least = Math.min(least, broken);
            greatest = Math.max(greatest, broken);
        }
        return most ? greatest : least;
    }

    public int led(int yarn, boolean loads) throws IndexOutOfBoundsException {
        yarnOf(yarn);
        return loads ? shed.breaks.loadsOf(yarn) : shed.breaks.rowsOf(yarn);
    }

    public int log(int ago, int what) throws NoSuchElementException {
        if (what < 0 || what >= LOG_WIDTH) {
            throw new NoSuchElementException("the log tells what 0 to 4");
        }
        return shed.breaks.cell(ago, what);
    }

    public int seed(int n) {
        int before = shed.seed;
        shed.seed = n;
        return before;
    }

    public boolean undo() {
        return memory.recall(shed);
    }

    public void image() {
        kept.become(shed);
        keptRules.become(rules);
        imaged = true;
    }

    public boolean back() {
        if (!imaged) {
            return false;
        }
        shed.become(kept);
        rules.become(keptRules);
        memory.forget();
        return true;
    }

    public int count(int what) {
        switch (what) {
            case 0:
                return shed.yarnCount;
            case 1:
                return shed.ropeCount;
            case 2:
                return shed.orderCount;
            case 3:
                return shed.texts;
            case 4:
                return rules.told ? rules.lines : NONE;
            case 5:
                return shed.season;
            case 6:
                return shed.gale;
            case 7:
                return shed.damp;
            case 8:
                return shed.hangingLoads();
            case 9:
                return shed.fell;
            case 10:
                return shed.broke;
            case 11:
                return shed.earned;
            case 12:
                return shed.brokenRopes();
            case 13:
                return shed.breaks.rows;
            case 14:
                return memory.size;
            default:
                return NONE;
        }
    }

    // ---- what a call needs

    private Yarn yarnOf(int yarn) {
        if (yarn < 0 || yarn >= shed.yarnCount) {
            throw new IndexOutOfBoundsException("there is no such yarn");
        }
        return shed.yarns[yarn];
    }

    private Rope ropeOf(int rope) {
        if (rope < 0 || rope >= shed.ropeCount) {
            throw new IndexOutOfBoundsException("there is no such rope");
        }
        return shed.ropes[rope];
    }

    private Rope soundRopeOf(int rope) {
        Rope it = ropeOf(rope);
        if (it.broken) {
            throw new IllegalStateException("the rope is broken");
        }
        return it;
    }

    private Order orderOf(int order) {
        if (order < 0 || order >= shed.orderCount) {
            throw new IndexOutOfBoundsException("there is no such order");
        }
        return shed.orders[order];
    }

    private void needThree(int yarn, int second, int third) {
        yarnOf(yarn);
        yarnOf(second);
        yarnOf(third);
        if (yarn == second || yarn == third || second == third) {
            throw new IllegalArgumentException("two yarns are one");
        }
    }

    private void needShare(int rope, int other, int load) {
        ropeOf(rope);
        ropeOf(other);
        if (rope == other) {
            throw new IllegalArgumentException("both ropes are one");
        }
        needWithin(load, 0, SHARE_MOST);
    }

    private void needRoomForRope() {
        if (shed.ropeCount >= ROPES_MOST) {
            throw new UnsupportedOperationException("there are 8 ropes");
        }
    }

    private static void needWithin(int n, int least, int most) {
        if (n < least || n > most) {
            throw new IllegalArgumentException("the number is out of its bounds");
        }
    }

    // ---- parts of answers

    private int bearingOf(int rope) {
        return shed.bearing(ropeOf(rope), rules);
    }

    private int trialBearing(int first, int second, int third, int fathoms) {
        probe.beLaid(first, second, third, fathoms);
        return shed.bearing(probe, rules);
    }

    private static int nameOfThree(int first, int second, int third) {
        return 100 * first + 10 * second + third;
    }

    private int cheapestFor(Order order) {
        int found = NONE;
        int least = 3 * STRENGTH_MOST + 1;
        for (int i = 0; i < shed.yarnCount; i++) {
            for (int j = i + 1; j < shed.yarnCount; j++) {
                for (int k = j + 1; k < shed.yarnCount; k++) {
                    int strength = shed.strengthOf(i, j, k);
                    if (strength < least && shed.shortest(i, j, k) >= order.fathoms
                            && trialBearing(i, j, k, order.fathoms) >= order.load) {
                        least = strength;
                        found = nameOfThree(i, j, k);
                    }
                }
            }
        }
        return found;
    }

    /** Counts the THREES that fit, and in yarnRow how many of them each YARN is in. */
    private int tallyThrees(int strength, int rot) {
        int fitting = 0;
        for (int i = 0; i < YARNS_MOST; i++) {
            yarnRow[i] = 0;
        }
        for (int i = 0; i < shed.yarnCount; i++) {
            for (int j = i + 1; j < shed.yarnCount; j++) {
                for (int k = j + 1; k < shed.yarnCount; k++) {
                    if (shed.strengthOf(i, j, k) == strength && shed.rotOf(i, j, k) == rot) {
                        fitting++;
                        yarnRow[i]++;
                        yarnRow[j]++;
                        yarnRow[k]++;
                    }
                }
            }
        }
        return fitting;
    }

    private int sureYarns(int fitting) {
        int bits = 0;
        for (int i = 0; i < shed.yarnCount; i++) {
            if (fitting > 0 && yarnRow[i] == fitting) {
                bits |= 1 << i;
            }
        }
        return bits;
    }

    private int yarnToAsk(int fitting) {
        int found = NONE;
        int least = fitting + 1;
        for (int i = 0; i < shed.yarnCount && fitting >= 2; i++) {
            int greaterPart = Math.max(yarnRow[i], fitting - yarnRow[i]);
            if (greaterPart < least) {
                least = greaterPart;
                found = i;
            }
        }
        return found;
    }

    /**
     * So many ROPES can be laid just when each YARN, used at most once in each of them, still gives
     * three pieces for all: the pieces can then be dealt round the ROPES one YARN behind another.
     */
    private int usablePieces(int length, int ropes) {
        int usable = 0;
        for (int i = 0; i < shed.yarnCount && length > 0; i++) {
            usable += Math.min(shed.yarns[i].length / length, ropes);
        }
        return usable;
    }

    private int ordersMetBy(Rope rope) {
        if (!rope.isFree()) {
            return 0;
        }
        int bearing = shed.bearing(rope, rules);
        int bits = 0;
        for (int i = 0; i < shed.orderCount; i++) {
            if (shed.orders[i].isFilledBy(rope.fathoms, bearing)) {
                bits |= 1 << i;
            }
        }
        return bits;
    }

    /** Marks in setRow, by 1, the sets of ORDERS that the ROPES can meet, each ROPE one at most. */
    private void markMeetable(int sets) {
        for (int set = 0; set < sets; set++) {
            setRow[set] = set == 0 ? 1 : 0;
        }
        for (int i = 0; i < shed.ropeCount; i++) {
            int met = ordersMetBy(shed.ropes[i]);
            // from the greatest set down, so that this rope never meets a second order
            for (int set = sets - 1; set >= 0 && met != 0; set--) {
                if (setRow[set] == 1) {
                    markWithOneMore(set, met & ~set);
                }
            }
        }
    }

    private void markWithOneMore(int set, int others) {
        for (int i = 0; i < shed.orderCount; i++) {
            if ((others >> i & 1) == 1) {
                setRow[set | 1 << i] = 1;
            }
        }
    }

    /** The fewest hours for a set, if one more man takes a part of it and those before him the rest. */
    private int hoursWithOneMore(int set) {
        int least = setRow[set];
        int part = set;
        for (int i = 0; i < SETS_MOST && part > 0; i++) {
            least = Math.min(least, Math.max(sumRow[part], setRow[set ^ part]));
            part = part - 1 & set;
        }
        return least;
    }

    private static int firstShare(int own, int others, int load) {
        int both = own + others;
        return both > 0 ? load * own / both : 0;
    }

    private int seasonsTillChange(Rope twin) {
        for (int passed = 0; passed <= SEASONS_AHEAD && !twin.broken; passed++) {
            if (spare.bearing(twin, rules) < 2 * twin.load) {
                return passed;
            }
            spare.fray(twin, false, rules);
            spare.endSeason();
        }
        return NONE;
    }

    /** Puts into sumRow what each set of ROPES BEARS together, and answers how many sets there are. */
    private int sumBearings() {
        int sets = 1;
        sumRow[0] = 0;
        for (int i = 0; i < shed.ropeCount; i++) {
            int bearing = shed.bearing(shed.ropes[i], rules);
            for (int set = 0; set < sets; set++) {
                sumRow[sets + set] = sumRow[set] + bearing;
            }
            sets *= 2;
        }
        return sets;
    }

    // ---- the things of the shed

    private static final class Yarn {
        int strength;
        int length;
        int rot;
        int reign;

        void become(Yarn other) {
            strength = other.strength;
            length = other.length;
            rot = other.rot;
            reign = other.reign;
        }

        int soundness() {
            return Math.max(strength - rot, 0);
        }

        int price() {
            return Math.max(strength * 3 - rot * 2, 0) + reign;
        }
    }

    private static final class Rope {
        int first;
        int second;
        int third;
        int fathoms;
        int tar;
        int wear;
        int plies;
        int load;
        boolean whipped;
        boolean broken;

        void become(Rope other) {
            first = other.first;
            second = other.second;
            third = other.third;
            fathoms = other.fathoms;
            tar = other.tar;
            wear = other.wear;
            plies = other.plies;
            load = other.load;
            whipped = other.whipped;
            broken = other.broken;
        }

        void beLaid(int yarn, int another, int last, int length) {
            first = yarn;
            second = another;
            third = last;
            fathoms = length;
            tar = 0;
            wear = 0;
            plies = 1;
            load = 0;
            whipped = false;
            broken = false;
        }

        boolean isOf(int yarn) {
            return yarn == first || yarn == second || yarn == third;
        }

        boolean isFree() {
            return !broken && load == 0;
        }

        void tarOnce() {
            tar = Math.min(tar + 1, TAR_MOST);
            wear = Math.max(wear - 5, 0);
        }

        boolean canDouble() {
            return !broken && plies < PLIES_MOST && fathoms >= 2;
        }

        void makeDouble() {
            plies = plies * 2;
            fathoms = fathoms / 2;
        }
    }

    private static final class Order {
        int load;
        int fathoms;
        int pay;

        void become(Order other) {
            load = other.load;
            fathoms = other.fathoms;
            pay = other.pay;
        }

        boolean isFilledBy(int length, int bearing) {
            return bearing >= load && length >= fathoms;
        }
    }

    /** THE LOG: a ring of the latest rows. */
    private static final class BreakLog {
        final int[] cells = new int[LOG_MOST * LOG_WIDTH];
        int rows;
        int next;

        void become(BreakLog other) {
            System.arraycopy(other.cells, 0, cells, 0, cells.length);
            rows = other.rows;
            next = other.next;
        }

        void add(int season, Rope rope) {
            int at = next * LOG_WIDTH;
            cells[at] = season;
            cells[at + 1] = rope.first;
            cells[at + 2] = rope.second;
            cells[at + 3] = rope.third;
            cells[at + 4] = rope.load;
            next = (next + 1) % LOG_MOST;
            rows = Math.min(rows + 1, LOG_MOST);
        }

        int cell(int ago, int what) {
            if (ago < 0 || ago >= rows) {
                return NONE;
            }
            int row = (next + LOG_MOST - 1 - ago) % LOG_MOST;
            return cells[row * LOG_WIDTH + what];
        }

        int rowsOf(int yarn) {
            int found = 0;
            for (int ago = 0; ago < rows; ago++) {
                found += isIn(yarn, ago) ? 1 : 0;
            }
            return found;
        }

        int loadsOf(int yarn) {
            int loads = 0;
            for (int ago = 0; ago < rows; ago++) {
                loads += isIn(yarn, ago) ? cell(ago, 4) : 0;
            }
            return loads;
        }

        private boolean isIn(int yarn, int ago) {
            return cell(ago, 1) == yarn || cell(ago, 2) == yarn || cell(ago, 3) == yarn;
        }
    }

    /** All that acts change; THE LAW is handed in, since no act changes it. */
    private static final class Shed {
        final Yarn[] yarns = new Yarn[YARNS_MOST];
        final Rope[] ropes = new Rope[ROPES_MOST];
        final Order[] orders = new Order[ORDERS_MOST];
        final BreakLog breaks = new BreakLog();
        int yarnCount;
        int ropeCount;
        int orderCount;
        int texts;
        int gale;
        int damp;
        int season;
        int seed = 1;
        int earned;
        int fell;
        int broke;

        Shed() {
            for (int i = 0; i < YARNS_MOST; i++) {
                yarns[i] = new Yarn();
            }
            for (int i = 0; i < ROPES_MOST; i++) {
                ropes[i] = new Rope();
            }
            for (int i = 0; i < ORDERS_MOST; i++) {
                orders[i] = new Order();
            }
        }

        void become(Shed other) {
            for (int i = 0; i < other.yarnCount; i++) {
                yarns[i].become(other.yarns[i]);
            }
            for (int i = 0; i < other.ropeCount; i++) {
                ropes[i].become(other.ropes[i]);
            }
            for (int i = 0; i < other.orderCount; i++) {
                orders[i].become(other.orders[i]);
            }
            breaks.become(other.breaks);
            yarnCount = other.yarnCount;
            ropeCount = other.ropeCount;
            orderCount = other.orderCount;
            texts = other.texts;
            gale = other.gale;
            damp = other.damp;
            season = other.season;
            seed = other.seed;
            earned = other.earned;
            fell = other.fell;
            broke = other.broke;
        }

        // -- yarns

        void addYarn(int strength, int length, int rot, int reign) {
            if (yarnCount >= YARNS_MOST) {
                return;
            }
            Yarn it = yarns[yarnCount];
            it.strength = strength;
            it.length = length;
            it.rot = rot;
            it.reign = reign;
            yarnCount++;
        }

        /** The YARN of a number that a ROPE or a loop holds: such a number always stands. */
        Yarn yarnAt(int yarn) {
            return yarns[yarn >= 0 && yarn < YARNS_MOST ? yarn : 0];
        }

        int shortest(int first, int second, int third) {
            int least = Math.min(yarnAt(first).length, yarnAt(second).length);
            return Math.min(least, yarnAt(third).length);
        }

        int strengthOf(int first, int second, int third) {
            return yarnAt(first).strength + yarnAt(second).strength + yarnAt(third).strength;
        }

        int rotOf(int first, int second, int third) {
            return yarnAt(first).rot + yarnAt(second).rot + yarnAt(third).rot;
        }

        int usesOf(int yarn) {
            int bits = 0;
            for (int i = 0; i < ropeCount; i++) {
                if (ropes[i].isOf(yarn)) {
                    bits |= 1 << i;
                }
            }
            return bits;
        }

        // -- ropes

        int addRope(int first, int second, int third, int fathoms) {
            if (ropeCount >= ROPES_MOST) {
                return NONE;
            }
            yarnAt(first).length -= fathoms;
            yarnAt(second).length -= fathoms;
            yarnAt(third).length -= fathoms;
            ropes[ropeCount].beLaid(first, second, third, fathoms);
            ropeCount++;
            return ropeCount - 1;
        }

        int addPiece(Rope rope, int fathoms) {
            if (ropeCount >= ROPES_MOST) {
                return NONE;
            }
            Rope piece = ropes[ropeCount];
            piece.become(rope);
            piece.fathoms = fathoms;
            piece.whipped = false;
            piece.load = 0;
            rope.fathoms -= fathoms;
            ropeCount++;
            return ropeCount - 1;
        }

        void removeRope(int rope) {
            for (int i = rope; i >= 0 && i + 1 < ropeCount; i++) {
                ropes[i].become(ropes[i + 1]);
            }
            ropeCount--;
        }

        int twinsOf(int rope) {
            int bits = 0;
            for (int i = 0; i < ropeCount; i++) {
                Rope other = ropes[i];
                boolean same = other.isOf(ropes[rope].first) && other.isOf(ropes[rope].second)
                        && other.isOf(ropes[rope].third);
                if (same && i != rope) {
                    bits |= 1 << i;
                }
            }
            return bits;
        }

        int brokenRopes() {
            int bits = 0;
            for (int i = 0; i < ropeCount; i++) {
                if (ropes[i].broken) {
                    bits |= 1 << i;
                }
            }
            return bits;
        }

        int hangingLoads() {
            int loads = 0;
            for (int i = 0; i < ropeCount; i++) {
                loads += ropes[i].load;
            }
            return loads;
        }

        int priceOf(Rope rope) {
            if (rope.broken) {
                return 0;
            }
            int together = yarnAt(rope.first).price() + yarnAt(rope.second).price()
                    + yarnAt(rope.third).price();
            return together * rope.fathoms / 10;
        }

        int pricesOf(int set) {
            int prices = 0;
            for (int i = 0; i < ropeCount; i++) {
                if ((set >> i & 1) == 1) {
                    prices += priceOf(ropes[i]);
                }
            }
            return prices;
        }

        int bearing(Rope rope, Law law) {
            if (rope.broken) {
                return 0;
            }
            Yarn one = yarnAt(rope.first);
            Yarn two = yarnAt(rope.second);
            Yarn three = yarnAt(rope.third);
            law.regard(rope, one, two, three, isWinter());
            int ply = one.soundness() + two.soundness() + three.soundness()
                    + law.sumOfLines(Law.LIFT) - rope.wear / 10;
            return Math.max(ply, 0) * rope.plies;
        }

        int wearing(Rope rope, Law law) {
            if (!law.told) {
                return 1;
            }
            law.regard(rope, yarnAt(rope.first), yarnAt(rope.second), yarnAt(rope.third), isWinter());
            return law.sumOfLines(Law.CHAFE);
        }

        // -- orders

        void addOrder(int load, int fathoms, int pay) {
            if (orderCount >= ORDERS_MOST) {
                return;
            }
            Order it = orders[orderCount];
            it.load = load;
            it.fathoms = fathoms;
            it.pay = pay;
            orderCount++;
        }

        void removeOrder(int order) {
            for (int i = order; i >= 0 && i + 1 < orderCount; i++) {
                orders[i].become(orders[i + 1]);
            }
            orderCount--;
        }

        int ordersBorne(int bearing) {
            int bits = 0;
            for (int i = 0; i < orderCount; i++) {
                if (orders[i].load <= bearing) {
                    bits |= 1 << i;
                }
            }
            return bits;
        }

        int payOf(int set) {
            int pay = 0;
            for (int i = 0; i < orderCount; i++) {
                if ((set >> i & 1) == 1) {
                    pay += orders[i].pay;
                }
            }
            return pay;
        }

        int fathomsOf(int set) {
            int fathoms = 0;
            for (int i = 0; i < orderCount; i++) {
                if ((set >> i & 1) == 1) {
                    fathoms += orders[i].fathoms;
                }
            }
            return fathoms;
        }

        // -- seasons

        boolean isWinter() {
            return season % 4 == 3;
        }

        void pass(int times, Law law) {
            for (int i = 0; i < times; i++) {
                passOne(law);
            }
        }

        private void passOne(Law law) {
            boolean blows = draw() % PERCENT < gale;
            for (int i = 0; i < ropeCount; i++) {
                if (!ropes[i].broken) {
                    fray(ropes[i], blows, law);
                }
            }
            for (int i = 0; i < yarnCount; i++) {
                // what is gone from the shed draws no damp, and so uses no draw
                if (yarns[i].length > 0 && draw() % PERCENT < damp) {
                    yarns[i].rot = Math.min(yarns[i].rot + 1, ROT_MOST);
                }
            }
            endSeason();
        }

        private int draw() {
            seed = 1103515245 * seed + 12345;
            return seed >>> 16 & 0x7FFF;
        }

        void endSeason() {
            season = Math.min(season + 1, SEASON_MOST);
        }

        void fray(Rope rope, boolean blows, Law law) {
            int pull = blows ? rope.load * 2 : rope.load;
            if (pull > 0 && pull > bearing(rope, law)) {
                snap(rope);
                return;
            }
            rope.wear = Math.min(rope.wear + wearing(rope, law), WEAR_MOST);
            if (!rope.whipped) {
                rope.fathoms--;
                if (rope.fathoms <= 0) {
                    snap(rope);
                }
            }
        }

        private void snap(Rope rope) {
            breaks.add(season, rope);
            fell += rope.load;
            broke++;
            rope.load = 0;
            rope.broken = true;
        }
    }

    /** The acts that can be UNDONE: a ring of what the shed was ahead of each. */
    private static final class Memory {
        final Shed[] sheds = new Shed[ACTS_MOST];
        int size;
        int next;

        Memory() {
            for (int i = 0; i < ACTS_MOST; i++) {
                sheds[i] = new Shed();
            }
        }

        void keep(Shed now) {
            sheds[next].become(now);
            next = (next + 1) % ACTS_MOST;
            size = Math.min(size + 1, ACTS_MOST);
        }

        boolean recall(Shed into) {
            if (size == 0) {
                return false;
            }
            size--;
            next = (next + ACTS_MOST - 1) % ACTS_MOST;
            into.become(sheds[next]);
            return true;
        }

        void forget() {
            size = 0;
        }
    }

    /** THE LAW: its LINES, their conditions in one row of codes, each operand ahead of its operator. */
    private static final class Law {
        /** A fail LINE lifts by a number below 0. */
        static final int LIFT = 0;
        static final int CHAFE = 1;
        /** Codes below this are numbers of the text themselves, those from it on facts of a ROPE. */
        static final int WEAK = 1000;
        static final int STRONG = 1001;
        static final int ROT = 1002;
        static final int REIGNS = 1003;
        static final int TAR = 1004;
        static final int WORN = 1005;
        static final int LONG = 1006;
        static final int PLIES = 1007;
        static final int LOAD = 1008;
        static final int WHIPPED = 1009;
        static final int WINTER = 1010;
        static final int NOT = 2000;
        static final int AND = 2001;
        static final int OR = 2002;
        static final int LESS = 2003;
        static final int MORE = 2004;
        static final int PLUS = 2005;
        private static final int FACTS = 11;
        /** No condition stacks more than 17: two for each of seven levels, and a sum compared in the last. */
        private static final int STACK = 32;

        final int[] kinds = new int[LAW_LINES_MOST];
        final int[] amounts = new int[LAW_LINES_MOST];
        final int[] ends = new int[LAW_LINES_MOST];
        final int[] codes = new int[TAPE_MOST];
        final int[] facts = new int[FACTS];
        final int[] stack = new int[STACK];
        int lines;
        int size;
        boolean told;

        void become(Law other) {
            System.arraycopy(other.kinds, 0, kinds, 0, LAW_LINES_MOST);
            System.arraycopy(other.amounts, 0, amounts, 0, LAW_LINES_MOST);
            System.arraycopy(other.ends, 0, ends, 0, LAW_LINES_MOST);
            System.arraycopy(other.codes, 0, codes, 0, TAPE_MOST);
            lines = other.lines;
            size = other.size;
            told = other.told;
        }

        void beginText() {
            lines = 0;
            size = 0;
            told = true;
        }

        void emit(int code) {
            if (size < TAPE_MOST) {
                codes[size] = code;
                size++;
            }
        }

        /** The codes since the LINE before are this one's condition. */
        void addLine(int kind, int amount) {
            if (lines < LAW_LINES_MOST) {
                kinds[lines] = kind;
                amounts[lines] = amount;
                ends[lines] = size;
                lines++;
            }
        }

        void regard(Rope rope, Yarn one, Yarn two, Yarn three, boolean winter) {
            facts[0] = Math.min(Math.min(one.strength, two.strength), three.strength);
            facts[1] = Math.max(Math.max(one.strength, two.strength), three.strength);
            facts[2] = one.rot + two.rot + three.rot;
            facts[3] = Integer.bitCount(1 << one.reign | 1 << two.reign | 1 << three.reign);
            facts[4] = rope.tar;
            facts[5] = rope.wear;
            facts[6] = rope.fathoms;
            facts[7] = rope.plies;
            facts[8] = rope.load;
            facts[9] = rope.whipped ? 1 : 0;
            facts[10] = winter ? 1 : 0;
        }

        /** The numbers together of all LINES of a kind that hold for the ROPE regarded. */
        int sumOfLines(int kind) {
            int sum = 0;
            int begin = 0;
            for (int line = 0; line < lines; line++) {
                if (kinds[line] == kind && conditionHolds(begin, ends[line])) {
                    sum += amounts[line];
                }
                begin = ends[line];
            }
            return sum;
        }

        private boolean conditionHolds(int begin, int end) {
            int top = 0;
            for (int at = begin; at < end; at++) {
                int code = codes[at];
                if (code < NOT) {
                    if (top < STACK) {
                        stack[top] = valueOf(code);
                        top++;
                    }
                } else if (code == NOT) {
                    if (top >= 1) {
                        stack[top - 1] = 1 - stack[top - 1];
                    }
                } else if (top >= 2) {
                    top--;
                    stack[top - 1] = joined(code, stack[top - 1], stack[top]);
                }
            }
            return top == 0 || stack[0] != 0;
        }

        private int valueOf(int code) {
            int fact = code - WEAK;
            return fact >= 0 && fact < FACTS ? facts[fact] : code;
        }

        private static int joined(int code, int left, int right) {
            switch (code) {
                case AND:
                    return left & right;
                case OR:
                    return left | right;
                case LESS:
                    return left < right ? 1 : 0;
                case MORE:
                    return left > right ? 1 : 0;
                default:
                    return left + right;
            }
        }
    }

    // ---- reading texts

    /** The TAPE, and the thing in it that is to be read next; behind the first fault nothing is taken. */
    private static final class Tape {
        private static final int BLANK = 32;
        private static final int DIGITS_MOST = 3;

        final int[] bytes = new int[TAPE_MOST];
        int length;
        int fault = NONE;
        /** Where the thing begins; the length of the text, if nothing more comes. */
        int at;
        int size;
        /** What it tells, if it is a number of not too many digits; else NONE. */
        int number;

        void append(int bits) {
            for (int shift = 24; shift >= 0 && length < TAPE_MOST; shift -= 8) {
                bytes[length] = bits >>> shift & 255;
                length++;
            }
        }

        void beginText() {
            fault = NONE;
            at = 0;
            size = 0;
            advance();
        }

        /** To the next thing: a number, a word, or one byte that is neither. */
        private void advance() {
            at += size;
            for (int i = at; i < length && bytes[i] == BLANK; i++) {
                at++;
            }
            size = 0;
            number = 0;
            for (int i = at; i < length && bytes[i] >= '0' && bytes[i] <= '9'; i++) {
                number = number * 10 + bytes[i] - '0';
                size++;
            }
            if (size == 0 || size > DIGITS_MOST) {
                number = NONE;
            }
            if (size == 0) {
                for (int i = at; i < length && bytes[i] >= 'a' && bytes[i] <= 'z'; i++) {
                    size++;
                }
            }
            if (size == 0 && at < length) {
                size = 1;
            }
        }

        boolean isRight() {
            return fault == NONE;
        }

        boolean isAtEnd() {
            return at >= length;
        }

        void refuse() {
            if (fault == NONE) {
                fault = at;
            }
        }

        void refuseAt(int place) {
            if (fault == NONE) {
                fault = place;
            }
        }

        boolean takeWord(String word) {
            if (fault != NONE || size != word.length()) {
                return false;
            }
            for (int i = 0; i < size; i++) {
                if (bytes[at + i] != word.charAt(i)) {
                    return false;
                }
            }
            advance();
            return true;
        }

        void needWord(String word) {
            if (!takeWord(word)) {
                refuse();
            }
        }

        boolean takeSign(char sign) {
            if (fault != NONE || size != 1 || bytes[at] != sign) {
                return false;
            }
            advance();
            return true;
        }

        void needSign(char sign) {
            if (!takeSign(sign)) {
                refuse();
            }
        }

        /** Takes a number within bounds, none of them below 0, or refuses what stands here: NONE. */
        int takeNumber(int least, int most) {
            if (fault != NONE || number < least || number > most) {
                refuse();
                return NONE;
            }
            int taken = number;
            advance();
            return taken;
        }

        /** Whether another LINE must come: behind a LINE stands a ; or nothing. */
        boolean takeLineEnd() {
            if (isAtEnd()) {
                return false;
            }
            needSign(';');
            return isRight();
        }
    }

    /** Reads a text of THE WALK into a shed, which is to be thrown away if the text is wrong. */
    private static final class WalkReader {
        private final Tape tape;
        private Shed shed;

        WalkReader(Tape tape) {
            this.tape = tape;
        }

        boolean read(Shed into) {
            shed = into;
            tape.beginText();
            boolean more = !tape.isAtEnd();
            for (int line = 0; line < WALK_LINES_MOST && more; line++) {
                readLine();
                more = tape.takeLineEnd();
            }
            if (more) {
                tape.refuse();
            }
            return tape.isRight();
        }

        private void readLine() {
            if (shed.yarnCount < YARNS_MOST && tape.takeWord("yarn")) {
                readYarn();
            } else if (shed.ropeCount < ROPES_MOST && tape.takeWord("rope")) {
                readRope();
            } else if (shed.orderCount < ORDERS_MOST && tape.takeWord("order")) {
                readOrder();
            } else if (tape.takeWord("hang")) {
                readHang();
            } else if (tape.takeWord("tar")) {
                readTar();
            } else if (tape.takeWord("whip")) {
                readWhip();
            } else if (tape.takeWord("gale")) {
                shed.gale = tape.takeNumber(0, PERCENT);
            } else if (tape.takeWord("damp")) {
                shed.damp = tape.takeNumber(0, PERCENT);
            } else {
                tape.refuse();
            }
        }

        private void readYarn() {
            int strength = tape.takeNumber(1, STRENGTH_MOST);
            tape.needWord("long");
            int length = tape.takeNumber(0, FATHOMS_MOST);
            tape.needWord("rot");
            int rot = tape.takeNumber(0, ROT_MOST);
            tape.needWord("reign");
            int reign = tape.takeNumber(0, REIGN_MOST);
            if (tape.isRight()) {
                shed.addYarn(strength, length, rot, reign);
            }
        }

        private void readRope() {
            int first = takeYarn(NONE, NONE);
            int second = takeYarn(first, NONE);
            int third = takeYarn(first, second);
            tape.needWord("long");
            int fathoms = tape.takeNumber(1, shed.shortest(first, second, third));
            if (tape.isRight()) {
                shed.addRope(first, second, third, fathoms);
            }
        }

        private int takeYarn(int told, int alsoTold) {
            if (tape.number == told || tape.number == alsoTold) {
                tape.refuse();
            }
            return tape.takeNumber(0, shed.yarnCount - 1);
        }

        private void readOrder() {
            int load = tape.takeNumber(1, ORDER_LOAD_MOST);
            tape.needWord("long");
            int fathoms = tape.takeNumber(1, ORDER_LONG_MOST);
            tape.needWord("pay");
            int pay = tape.takeNumber(0, PAY_MOST);
            if (tape.isRight()) {
                shed.addOrder(load, fathoms, pay);
            }
        }

        private void readHang() {
            int rope = takeRope();
            int load = tape.takeNumber(0, LOAD_MOST);
            if (tape.isRight()) {
                shed.ropes[rope].load = load;
            }
        }

        private void readTar() {
            int rope = takeRope();
            int tar = tape.takeNumber(0, TAR_MOST);
            if (tape.isRight()) {
                shed.ropes[rope].tar = tar;
            }
        }

        private void readWhip() {
            int rope = takeRope();
            if (tape.isRight()) {
                shed.ropes[rope].whipped = true;
            }
        }

        private int takeRope() {
            int rope = tape.number;
            if (rope >= 0 && rope < shed.ropeCount && shed.ropes[rope].broken) {
                tape.refuse();
            }
            return tape.takeNumber(0, shed.ropeCount - 1);
        }
    }

    /** Reads a text of THE LAW into rules, which are to be thrown away if the text is wrong. */
    private static final class LawReader {
        private static final int DEEPEST = 6;
        private static final int AMOUNT_MOST = 99;
        private static final int PART_MOST = 999;

        private final Tape tape;
        private Law law;

        LawReader(Tape tape) {
            this.tape = tape;
        }

        boolean read(Law into) {
            law = into;
            law.beginText();
            tape.beginText();
            boolean more = !tape.isAtEnd();
            for (int line = 0; line < LAW_LINES_MOST && more; line++) {
                boolean fails = tape.takeWord("fail");
                int kind = fails ? Law.LIFT : takeKind();
                int amount = tape.takeNumber(0, AMOUNT_MOST);
                if (tape.takeWord("if")) {
                    readCondition(0);
                }
                law.addLine(kind, fails ? -amount : amount);
                more = tape.takeLineEnd();
            }
            if (more) {
                tape.refuse();
            }
            return tape.isRight();
        }

        private int takeKind() {
            if (tape.takeWord("bear")) {
                return Law.LIFT;
            }
            tape.needWord("wear");
            return Law.CHAFE;
        }

        private void readCondition(int depth) {
            for (int alls = 0; alls < TAPE_MOST && (alls == 0 || tape.takeWord("or")); alls++) {
                readAtom(depth);
                for (int i = 0; i < TAPE_MOST && tape.takeWord("and"); i++) {
                    readAtom(depth);
                    law.emit(Law.AND);
                }
                if (alls > 0) {
                    law.emit(Law.OR);
                }
            }
        }

        private void readAtom(int depth) {
            int begin = tape.at;
            boolean not = tape.takeWord("not");
            boolean nests = not || tape.takeSign('(');
            if (nests && depth >= DEEPEST) {
                tape.refuseAt(begin);
            } else if (not) {
                readAtom(depth + 1);
                law.emit(Law.NOT);
            } else if (nests) {
                readCondition(depth + 1);
                tape.needSign(')');
            } else if (tape.takeWord("whipped")) {
                law.emit(Law.WHIPPED);
            } else if (tape.takeWord("winter")) {
                law.emit(Law.WINTER);
            } else {
                readSum();
                boolean less = tape.takeSign('<');
                if (!less) {
                    tape.needSign('>');
                }
                readSum();
                law.emit(less ? Law.LESS : Law.MORE);
            }
        }

        private void readSum() {
            law.emit(takePart());
            for (int i = 0; i < TAPE_MOST && tape.takeSign('+'); i++) {
                law.emit(takePart());
                law.emit(Law.PLUS);
            }
        }

        private int takePart() {
            if (tape.takeWord("weak")) {
                return Law.WEAK;
            }
            if (tape.takeWord("strong")) {
                return Law.STRONG;
            }
            if (tape.takeWord("rot")) {
                return Law.ROT;
            }
            if (tape.takeWord("reigns")) {
                return Law.REIGNS;
            }
            if (tape.takeWord("tar")) {
                return Law.TAR;
            }
            if (tape.takeWord("worn")) {
                return Law.WORN;
            }
            if (tape.takeWord("long")) {
                return Law.LONG;
            }
            if (tape.takeWord("plies")) {
                return Law.PLIES;
            }
            return tape.takeWord("load") ? Law.LOAD : tape.takeNumber(0, PART_MOST);
        }
    }
}
