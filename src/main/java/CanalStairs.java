import java.util.Arrays;

/**
 * A staircase of canal pools that are held one within another while water is levelled and boats go
 * up and down.
 *
 * <p>Inside, what can fail answers a number from 0 on when it is done, and a reason's number below 0
 * when it fails; only the public methods turn a reason into an exception. So no exception has to be
 * caught, and every failure leaves the open holds in one place, {@link #failing}.
 */
public final class CanalStairs {
    public static final int NONE = -1;

    private static final int POOLS = 8;
    private static final int GATES = POOLS - 1;
    private static final int BOATS = 10;
    private static final int BERTHS = 3;
    private static final int MOST_AREA = 9;
    private static final int MOST_WATER = 9999;
    private static final int MOST_DRAUGHT = 99;
    private static final int MOST_USES = 99;
    private static final int MOST_LEVELLED = 200;
    private static final int USES_AT_FIRST = 5;
    private static final int DRAUGHT_AT_FIRST = 1;
    private static final int ALL_BOATS = (1 << BOATS) - 1;

    // A flight holds all pools, a pass within it the boat's own, levelling within that two more.
    private static final int MOST_OPEN = POOLS + 3;

    // No pool that is dug has this area, so it marks the others.
    private static final int NOT_DUG = 0;

    // The numbers are those that trip() tells.
    private static final int MISSING = 1;
    private static final int WORN = 2;
    private static final int STUCK = 3;
    private static final int SLOW = 4;

    // A flight that fails has passed fewer than ten gates, so both fit into one number.
    private static final int REASON_STEP = 10;

    private final int[] areas = new int[POOLS];
    private final int[] waters = new int[POOLS];
    private final int[] lefts = new int[POOLS];
    private final int[] gateUses = new int[GATES];
    private final int[] draughts = new int[BOATS];
    private final int[] places = new int[BOATS];
    private final int[] open = new int[MOST_OPEN];
    private int depth;
    private int deepest;
    private int holds;

    public CanalStairs() {
        reset();
    }

    public int dig(int pool, int area) throws ArrayIndexOutOfBoundsException, IllegalArgumentException {
        checkPool(pool);
        checkRange(area, 1, MOST_AREA);
        if (isDug(pool)) {
            return 0;
        }
        areas[pool] = area;
        return 1;
    }

    public int fill(int pool) throws ArrayIndexOutOfBoundsException, NullPointerException {
        checkPool(pool);
        return answered(fillIn(pool));
    }

    public int pour(int pool, int units)
            throws ArrayIndexOutOfBoundsException, IllegalArgumentException, NullPointerException {
        checkPool(pool);
        checkRange(units, 0, MOST_WATER);
        return answered(pourInto(pool, units));
    }

    public int draw(int pool, int height)
            throws ArrayIndexOutOfBoundsException, IllegalArgumentException, NullPointerException {
        checkPool(pool);
        if (height < 0) {
            throw new IllegalArgumentException("the height is below 0");
        }
        return answered(drawDown(pool, height));
    }

    public int boat(int boat, int draught, int pool)
            throws ArrayIndexOutOfBoundsException, IllegalArgumentException, NullPointerException,
                    UnsupportedOperationException {
        checkBoat(boat);
        checkPool(pool);
        checkRange(draught, 1, MOST_DRAUGHT);
        return answered(berth(boat, draught, pool));
    }

    public int gate(int gate, int uses) throws ArrayIndexOutOfBoundsException, IllegalArgumentException {
        checkGate(gate);
        checkRange(uses, 0, MOST_USES);
        int before = gateUses[gate];
        gateUses[gate] = uses;
        return before;
    }

    public int level(int gate)
            throws ArrayIndexOutOfBoundsException, NullPointerException, IllegalStateException,
                    ArithmeticException {
        checkGate(gate);
        return answered(levelGate(gate));
    }

    public int pass(int boat, boolean up)
            throws ArrayIndexOutOfBoundsException, NullPointerException, IllegalStateException,
                    UnsupportedOperationException, ArithmeticException {
        checkBoat(boat);
        if (places[boat] == NONE) {
            throw new IllegalStateException("the boat lies in no pool");
        }
        if (!hasGate(places[boat], up)) {
            throw new ArrayIndexOutOfBoundsException("no gate that way");
        }
        return answered(passBoat(boat, up));
    }

    public int flight(int boat, int to)
            throws ArrayIndexOutOfBoundsException, NullPointerException, IllegalStateException,
                    UnsupportedOperationException, ArithmeticException {
        checkBoat(boat);
        checkPool(to);
        int flown = fly(boat, to);
        return answered(flown < 0 ? flown / REASON_STEP : flown);
    }

    public int trip(int boat, int to) throws ArrayIndexOutOfBoundsException {
        checkBoat(boat);
        checkPool(to);
        return fly(boat, to);
    }

    public int convoy(int boats, boolean up) throws IllegalArgumentException {
        checkRange(boats, 0, ALL_BOATS);
        int passed = 0;
        for (int boat = 0; boat < BOATS; boat++) {
            if ((boats >> boat & 1) == 1 && canSetOut(boat, up)) {
                int there = passInConvoy(boat, up);
                if (there == -WORN) {
                    break;
                }
                passed += there >= 0 ? 1 : 0;
            }
        }
        return passed;
    }

    public int share(int from, int to)
            throws ArrayIndexOutOfBoundsException, IllegalArgumentException, NullPointerException {
        checkPool(from);
        checkPool(to);
        if (from > to) {
            throw new IllegalArgumentException("the first pool is above the last");
        }
        return answered(shareOut(from, to));
    }

    public int first(int height) {
        for (int pool = 0; pool < POOLS; pool++) {
            if (hold(pool)) {
                boolean enough = heightOf(pool) >= height;
                leave(1);
                if (enough) {
                    return pool;
                }
            }
        }
        return NONE;
    }

    public int pool(int pool, int what) throws ArrayIndexOutOfBoundsException, NullPointerException {
        checkPool(pool);
        if (!isDug(pool)) {
            throw new NullPointerException("the pool is not dug");
        }
        switch (what) {
            case 0:
                return areas[pool];
            case 1:
                return waters[pool];
            case 2:
                return heightOf(pool);
            case 3:
                return boatsIn(pool);
            case 4:
                return lefts[pool];
            default:
                return NONE;
        }
    }

    public int where(int boat) throws ArrayIndexOutOfBoundsException {
        checkBoat(boat);
        return places[boat];
    }

    public int told(int what) {
        switch (what) {
            case 0:
                return holds;
            case 1:
                return deepest;
            case 2:
                return countDug();
            case 3:
                return sum(waters, 0, POOLS - 1);
            default:
                return NONE;
        }
    }

    public int clear() {
        int dug = countDug();
        reset();
        return dug;
    }

    private void reset() {
        Arrays.fill(areas, NOT_DUG);
        Arrays.fill(waters, 0);
        Arrays.fill(lefts, 0);
        Arrays.fill(gateUses, USES_AT_FIRST);
        Arrays.fill(draughts, DRAUGHT_AT_FIRST);
        Arrays.fill(places, NONE);
        deepest = 0;
        holds = 0;
    }

    private static void checkBoat(int boat) {
        if (boat < 0 || boat >= BOATS) {
            throw new ArrayIndexOutOfBoundsException("no such boat");
        }
    }

    private static void checkPool(int pool) {
        if (pool < 0 || pool >= POOLS) {
            throw new ArrayIndexOutOfBoundsException("no such pool");
        }
    }

    private static void checkGate(int gate) {
        if (gate < 0 || gate >= GATES) {
            throw new ArrayIndexOutOfBoundsException("no such gate");
        }
    }

    private static void checkRange(int number, int least, int most) {
        if (number < least || number > most) {
            throw new IllegalArgumentException("a number is out of its range");
        }
    }

    private static int answered(int answer) {
        switch (answer) {
            case -MISSING:
                throw new NullPointerException("a pool is not dug");
            case -WORN:
                throw new IllegalStateException("a gate is worn, or the boat lies in no pool");
            case -STUCK:
                throw new UnsupportedOperationException("the boat is stuck");
            case -SLOW:
                throw new ArithmeticException("levelling is slow");
            default:
                return answer;
        }
    }

    /** False if the pool is missing. */
    private boolean hold(int pool) {
        if (!isDug(pool) || depth >= MOST_OPEN) {
            return false;
        }
        open[depth] = pool;
        depth++;
        holds++;
        deepest = Math.max(deepest, depth);
        return true;
    }

    /** Holds every pool on the way, each within the one before; false if one is missing. */
    private boolean holdAll(int from, int to) {
        int step = from <= to ? 1 : -1;
        int many = Math.abs(to - from) + 1;
        for (int i = 0; i < many; i++) {
            if (!hold(from + i * step)) {
                return false;
            }
        }
        return true;
    }

    /** Leaves the innermost holds because what they are for is done. */
    private void leave(int many) {
        depth = Math.max(0, depth - many);
    }

    /** Leaves all open holds, the innermost first, and answers the reason below 0. */
    private int failing(int reason) {
        while (depth > 0) {
            depth--;
            lefts[open[depth]]++;
        }
        return -reason;
    }

    private int fillIn(int pool) {
        if (!hold(pool)) {
            return failing(MISSING);
        }
        int lay = boatsIn(pool);
        for (int boat = 0; boat < BOATS; boat++) {
            if (places[boat] == pool) {
                places[boat] = NONE;
            }
        }
        areas[pool] = NOT_DUG;
        waters[pool] = 0;
        lefts[pool] = 0;
        leave(1);
        return lay;
    }

    private int pourInto(int pool, int units) {
        if (!hold(pool)) {
            return failing(MISSING);
        }
        // Levelling and sharing may have brought more than can be poured, and that stays.
        if (waters[pool] < MOST_WATER) {
            waters[pool] = Math.min(MOST_WATER, waters[pool] + units);
        }
        leave(1);
        return waters[pool];
    }

    private int drawDown(int pool, int height) {
        if (!hold(pool)) {
            return failing(MISSING);
        }
        // A long, since any height from 0 on is allowed.
        long mostKept = (height + 1L) * areas[pool] - 1;
        int kept = (int) Math.min(waters[pool], mostKept);
        int lost = waters[pool] - kept;
        waters[pool] = kept;
        leave(1);
        return lost;
    }

    private int berth(int boat, int draught, int pool) {
        if (!hold(pool)) {
            return failing(MISSING);
        }
        if (places[boat] != pool && boatsIn(pool) >= BERTHS) {
            return failing(STUCK);
        }
        draughts[boat] = draught;
        places[boat] = pool;
        leave(1);
        return boatsIn(pool);
    }

    /** Answers how many units went. */
    private int levelGate(int gate) {
        if (!holdAll(gate, gate + 1)) {
            return failing(MISSING);
        }
        if (gateUses[gate] == 0) {
            return failing(WORN);
        }
        gateUses[gate]--;
        int went = 0;
        while (went < MOST_LEVELLED && heightOf(gate) != heightOf(gate + 1)) {
            moveUnit(gate, gate + 1);
            went++;
        }
        if (heightOf(gate) != heightOf(gate + 1)) {
            return failing(SLOW);
        }
        leave(2);
        return went;
    }

    private void moveUnit(int one, int other) {
        int units = heightOf(one) > heightOf(other) ? 1 : -1;
        waters[one] -= units;
        waters[other] += units;
    }

    /** Answers the pool in which the boat lies then; its pool must have a gate that way. */
    private int passBoat(int boat, boolean up) {
        int own = places[boat];
        int behind = up ? own + 1 : own - 1;
        if (!hold(own)) {
            return failing(MISSING);
        }
        int went = levelGate(Math.min(own, behind));
        if (went < 0) {
            return went;
        }
        if (!hold(behind)) {
            return failing(MISSING);
        }
        if (boatsIn(behind) >= BERTHS || heightOf(behind) < draughts[boat]) {
            return failing(STUCK);
        }
        places[boat] = behind;
        leave(2);
        return behind;
    }

    private int passInConvoy(int boat, boolean up) {
        int there = passBoat(boat, up);
        return there == -SLOW ? passBoat(boat, up) : there;
    }

    /** Answers how many gates were passed, or what trip() tells of a failure. */
    private int fly(int boat, int to) {
        int from = places[boat];
        if (from == NONE) {
            return REASON_STEP * -WORN;
        }
        if (!holdAll(from, to)) {
            return REASON_STEP * failing(MISSING);
        }
        int gates = Math.abs(to - from);
        for (int passed = 0; passed < gates; passed++) {
            int there = passBoat(boat, from < to);
            if (there < 0) {
                return REASON_STEP * there - passed;
            }
        }
        leave(gates + 1);
        return gates;
    }

    /** Answers the water of the first pool then. */
    private int shareOut(int from, int to) {
        if (!holdAll(from, to)) {
            return failing(MISSING);
        }
        int allWater = sum(waters, from, to);
        int allAreas = sum(areas, from, to);
        int rest = allWater;
        for (int pool = from; pool <= to; pool++) {
            waters[pool] = portion(areas[pool], allWater, allAreas);
            rest -= waters[pool];
        }
        waters[from] += rest;
        leave(to - from + 1);
        return waters[from];
    }

    private static int portion(int area, int allWater, int allAreas) {
        return allAreas > 0 ? (int) ((long) area * allWater / allAreas) : 0;
    }

    private static int sum(int[] row, int from, int to) {
        int all = 0;
        for (int i = Math.max(0, from); i <= to && i < row.length; i++) {
            all += row[i];
        }
        return all;
    }

    private boolean isDug(int pool) {
        return areas[pool] != NOT_DUG;
    }

    private int heightOf(int pool) {
        return areas[pool] > 0 ? waters[pool] / areas[pool] : 0;
    }

    private int boatsIn(int pool) {
        int many = 0;
        for (int boat = 0; boat < BOATS; boat++) {
            if (places[boat] == pool) {
                many++;
            }
        }
        return many;
    }

    private int countDug() {
        int many = 0;
        for (int pool = 0; pool < POOLS; pool++) {
            if (isDug(pool)) {
                many++;
            }
        }
        return many;
    }

    private boolean canSetOut(int boat, boolean up) {
        return places[boat] != NONE && hasGate(places[boat], up);
    }

    private static boolean hasGate(int pool, boolean up) {
        return up ? pool < POOLS - 1 : pool > 0;
    }
}
