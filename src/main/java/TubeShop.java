import java.util.NoSuchElementException;

/**
 * A shop for tubes that glow: strokes on a grid, the best run of glass over any of them, the split
 * of all of them into the fewest runs, the boxes that feed these and the looks that find a dead one.
 */
public final class TubeShop {
    public static final int NONE = -1;

    private static final int MOST_STROKES = 9;
    /** A step is twice a stroke's number, 1 more if the stroke is gone backward. */
    private static final int STEPS = 2 * MOST_STROKES;
    private static final int SETS = 1 << MOST_STROKES;
    private static final int GRID_SIDE = 10;
    private static final int ALONG = 10;
    private static final int ACROSS = 14;
    private static final int LONGEST_AT_FIRST = 9999;
    private static final int MOST_LONGEST = 9999;

    /**
     * A cost holds PAY above LENGTH in one int, so that comparing costs compares PAY first. No run
     * is longer than 9 strokes and 8 jumps of 126 each, which is less than one unit of PAY.
     */
    private static final int PAY_UNIT = 1 << 12;

    private final Sign sign = new Sign();
    private final PriceList prices = new PriceList();
    private final RunTable runs = new RunTable();
    private final Splitter splitter = new Splitter();
    private final Parts parts = new Parts();
    private final Boxes boxes = new Boxes();
    private final Joints joints = new Joints();
    private int mostLength = LONGEST_AT_FIRST;

    public TubeShop() {
    }

    public void anew() {
        sign.clear();
        runs.forget();
        parts.drop();
    }

    public int stroke(int x0, int y0, int x1, int y1) {
        return sign.add(x0, y0, x1, y1);
    }

    public boolean price(int what, int n) {
        if (!prices.put(what, n)) {
            return false;
        }
        runs.forget();
        return true;
    }

    public boolean longest(int n) {
        if (n < 1 || n > MOST_LONGEST) {
            return false;
        }
        mostLength = n;
        return true;
    }

    public int run(int set, int what) {
        if (!sign.holds(set)) {
            return NONE;
        }
        runs.refresh(sign, prices);
        switch (what) {
            case 0:
                return payOf(runs.costOf(set));
            case 1:
                return lengthOf(runs.costOf(set));
            case 2:
                return prices.ofRun(runs.costOf(set));
            case 3:
                return runs.jumpsOf(set);
            default:
                return NONE;
        }
    }

    public int step(int set, int k) {
        if (!sign.holds(set)) {
            return NONE;
        }
        runs.refresh(sign, prices);
        return runs.stepOf(set, k);
    }

    public int split() {
        runs.refresh(sign, prices);
        if (!splitter.search(runs, prices, sign.all(), mostLength)) {
            return NONE;
        }
        splitter.tell(runs, prices, sign.all(), parts);
        return parts.size;
    }

    public int part(int k, int what) throws IndexOutOfBoundsException, NoSuchElementException {
        if (k < 0 || k >= parts.size) {
            throw new IndexOutOfBoundsException("no such run in the split");
        }
        switch (what) {
            case 0:
                return parts.sets[k];
            case 1:
                return parts.lengths[k];
            case 2:
                return parts.amounts[k];
            default:
                throw new NoSuchElementException("a run tells 0, 1 or 2");
        }
    }

    public int feed(int rate, int voltage) {
        if (rate < 0 || rate > 99 || voltage < 1 || voltage > 99999 || !parts.areThere()) {
            return NONE;
        }
        return boxes.fewest(parts, rate, voltage);
    }

    public int dead(int what) {
        if (!parts.areThere() || what < 0 || what > 1) {
            return NONE;
        }
        joints.weigh(parts);
        return what == 0 ? joints.looks : joints.first;
    }

    public int look(int stroke, int what) throws IndexOutOfBoundsException, NoSuchElementException {
        if (stroke < 0 || stroke >= sign.size) {
            throw new IndexOutOfBoundsException("no such stroke");
        }
        switch (what) {
            case 0:
                return sign.lengths[stroke];
            case 1:
                return sign.directions[2 * stroke];
            default:
                throw new NoSuchElementException("a stroke tells 0 or 1");
        }
    }

    public int count(int what) {
        switch (what) {
            case 0:
                return sign.size;
            case 1:
                return parts.size;
            case 2:
                return sign.wholeLength();
            case 3:
                return parts.wholePrice();
            case 4:
                return mostLength;
            default:
                return NONE;
        }
    }

    private static int payOf(int cost) {
        return cost / PAY_UNIT;
    }

    private static int lengthOf(int cost) {
        return cost % PAY_UNIT;
    }

    private static int bitOf(int step) {
        return 1 << (step >> 1);
    }

    private static int distance(int dx, int dy) {
        int wide = Math.abs(dx);
        int high = Math.abs(dy);
        int both = Math.min(wide, high);
        return ACROSS * both + ALONG * (Math.max(wide, high) - both);
    }

    /** The strokes at hand. */
    private static final class Sign {
        /** By the sign of y's way (less, same, more) and in each by that of x's. */
        private static final int[] COMPASS = {5, 6, 7, 4, NONE, 0, 3, 2, 1};

        private int size = 0;
        /** Where each step begins; it ends where its opposite, step ^ 1, begins. */
        private final int[] x = new int[STEPS];
        private final int[] y = new int[STEPS];
        private final int[] directions = new int[STEPS];
        private final int[] lengths = new int[MOST_STROKES];

        void clear() {
            size = 0;
        }

        int add(int x0, int y0, int x1, int y1) {
            if (size >= MOST_STROKES || !onGrid(x0, y0) || !onGrid(x1, y1)) {
                return NONE;
            }
            int dx = x1 - x0;
            int dy = y1 - y0;
            if (!isStraight(dx, dy)) {
                return NONE;
            }
            int direction = COMPASS[3 * (Integer.signum(dy) + 1) + Integer.signum(dx) + 1];
            setStep(2 * size, x0, y0, direction);
            setStep(2 * size + 1, x1, y1, (direction + 4) % 8);
            lengths[size] = distance(dx, dy);
            size++;
            return size - 1;
        }

        private void setStep(int step, int beginX, int beginY, int direction) {
            x[step] = beginX;
            y[step] = beginY;
            directions[step] = direction;
        }

        private static boolean onGrid(int px, int py) {
            return px >= 0 && px < GRID_SIDE && py >= 0 && py < GRID_SIDE;
        }

        private static boolean isStraight(int dx, int dy) {
            if (dx == 0 || dy == 0) {
                return dx != dy;
            }
            return Math.abs(dx) == Math.abs(dy);
        }

        int all() {
            return (1 << size) - 1;
        }

        boolean holds(int set) {
            return set >= 1 && set <= all();
        }

        int wholeLength() {
            int sum = 0;
            for (int stroke = 0; stroke < size; stroke++) {
                sum += lengths[stroke];
            }
            return sum;
        }

        /** What lies between two steps, as a cost: a bend has no length, a jump always has some. */
        int linkCost(PriceList prices, int from, int to) {
            int dx = x[to] - x[from ^ 1];
            int dy = y[to] - y[from ^ 1];
            if (dx != 0 || dy != 0) {
                return prices.ofJump() * PAY_UNIT + distance(dx, dy);
            }
            int turn = Math.abs(directions[to] - directions[from]);
            return prices.ofBend(Math.min(turn, 8 - turn)) * PAY_UNIT;
        }
    }

    private static final class PriceList {
        private static final int JUMP = 5;
        private static final int TEN_LENGTH = 6;
        private static final int MOST = 99;
        private static final int[] AT_FIRST = {0, 1, 2, 4, 8, 5, 1};

        private final int[] amounts = AT_FIRST.clone();

        boolean put(int what, int n) {
            if (what < 0 || what >= amounts.length || n < 0 || n > MOST) {
                return false;
            }
            amounts[what] = n;
            return true;
        }

        int ofBend(int turn) {
            return amounts[turn];
        }

        int ofJump() {
            return amounts[JUMP];
        }

        int ofRun(int cost) {
            return payOf(cost) + amounts[TEN_LENGTH] * lengthOf(cost) / 10;
        }
    }

    /** The best runs over all sets of strokes. */
    private static final class RunTable {
        private int steps = 0;
        private final int[] lengths = new int[MOST_STROKES];
        private final int[] links = new int[STEPS * STEPS];
        /** By set and step: the least cost of a run over the set that begins with the step. */
        private final int[] costs = new int[SETS * STEPS];
        private final int[] best = new int[SETS];
        private final int[] way = new int[MOST_STROKES];
        /** Sets below this one are right; a new stroke changes nothing for sets without it. */
        private int filled = 1;

        void forget() {
            filled = 1;
        }

        void refresh(Sign sign, PriceList prices) {
            int sets = sign.all() + 1;
            if (filled >= sets) {
                return;
            }
            takeOver(sign, prices);
            for (int set = filled; set < sets; set++) {
                fill(set);
            }
            filled = sets;
        }

        private void takeOver(Sign sign, PriceList prices) {
            steps = 2 * sign.size;
            System.arraycopy(sign.lengths, 0, lengths, 0, MOST_STROKES);
            for (int from = 0; from < steps; from++) {
                for (int to = 0; to < steps; to++) {
                    links[from * STEPS + to] = sign.linkCost(prices, from, to);
                }
            }
        }

        private void fill(int set) {
            int least = Integer.MAX_VALUE;
            for (int step = 0; step < steps; step++) {
                if ((set & bitOf(step)) != 0) {
                    int cost = lengths[step >> 1] + leastBehind(step, set ^ bitOf(step));
                    costs[set * STEPS + step] = cost;
                    least = Math.min(least, cost);
                }
            }
            best[set] = least;
        }

        private int leastBehind(int step, int rest) {
            if (rest == 0) {
                return 0;
            }
            int least = Integer.MAX_VALUE;
            int link = step * STEPS;
            int cost = rest * STEPS;
            for (int next = 0; next < steps; next += 2) {
                if ((rest >> (next >> 1) & 1) != 0) {
                    int forward = links[link + next] + costs[cost + next];
                    int backward = links[link + next + 1] + costs[cost + next + 1];
                    least = Math.min(least, Math.min(forward, backward));
                }
            }
            return least;
        }

        int costOf(int set) {
            return best[set];
        }

        int stepOf(int set, int k) {
            int made = trace(set);
            return k < 0 || k >= made ? NONE : way[k];
        }

        int jumpsOf(int set) {
            int made = trace(set);
            int jumps = 0;
            for (int k = 1; k < made; k++) {
                if (lengthOf(links[way[k - 1] * STEPS + way[k]]) > 0) {
                    jumps++;
                }
            }
            return jumps;
        }

        /** Puts the best run's steps into the way and answers how many they are. */
        private int trace(int set) {
            int left = set;
            int due = best[set];
            int before = NONE;
            for (int made = 0; made < MOST_STROKES; made++) {
                int step = left == 0 ? NONE : firstStep(before, left, due);
                if (step == NONE) {
                    return made;
                }
                due = costs[left * STEPS + step] - lengths[step >> 1];
                left ^= bitOf(step);
                way[made] = step;
                before = step;
            }
            return MOST_STROKES;
        }

        /** The least step that keeps to the least cost: so the whole row comes out as the first. */
        private int firstStep(int before, int left, int due) {
            for (int step = 0; step < steps; step++) {
                if ((left & bitOf(step)) != 0) {
                    int link = before == NONE ? 0 : links[before * STEPS + step];
                    if (link + costs[left * STEPS + step] == due) {
                        return step;
                    }
                }
            }
            return NONE;
        }
    }

    /** The split at hand, as it was when it was made. */
    private static final class Parts {
        private int size = NONE;
        private final int[] sets = new int[MOST_STROKES];
        private final int[] lengths = new int[MOST_STROKES];
        private final int[] amounts = new int[MOST_STROKES];

        void drop() {
            size = NONE;
        }

        void begin() {
            size = 0;
        }

        void add(int set, int length, int amount) {
            if (size >= 0 && size < MOST_STROKES) {
                sets[size] = set;
                lengths[size] = length;
                amounts[size] = amount;
                size++;
            }
        }

        boolean areThere() {
            return size != NONE;
        }

        int wholePrice() {
            if (!areThere()) {
                return NONE;
            }
            int sum = 0;
            for (int k = 0; k < size; k++) {
                sum += amounts[k];
            }
            return sum;
        }
    }

    /** Looks for the fewest runs, of several the cheapest, of several the first by sets. */
    private static final class Splitter {
        /** How many runs stands above the sum of prices, which is less than 9 times 22,000. */
        private static final int RUN_UNIT = 1 << 20;
        private static final int NO_WAY = Integer.MAX_VALUE;

        /** By set: the least sum of runs and prices over all splits of the set. */
        private final int[] sums = new int[SETS];
        private int mostLength = 0;

        boolean search(RunTable runs, PriceList prices, int all, int longestAllowed) {
            mostLength = longestAllowed;
            sums[0] = 0;
            for (int set = 1; set <= all; set++) {
                sums[set] = leastSum(runs, prices, set);
            }
            return sums[all] != NO_WAY;
        }

        private int leastSum(RunTable runs, PriceList prices, int set) {
            int lowest = set & -set;
            int rest = set ^ lowest;
            int least = NO_WAY;
            int others = 0;
            for (int left = 1 << Integer.bitCount(rest); left > 0; left--) {
                least = Math.min(least, sumWith(runs, prices, set, lowest | others));
                others = nextWithin(others, rest);
            }
            return least;
        }

        private int sumWith(RunTable runs, PriceList prices, int set, int first) {
            int cost = runs.costOf(first);
            int behind = sums[set ^ first];
            if (behind == NO_WAY || lengthOf(cost) > mostLength) {
                return NO_WAY;
            }
            return RUN_UNIT + prices.ofRun(cost) + behind;
        }

        /** The next greater subset, and the empty one behind the greatest. */
        private static int nextWithin(int others, int rest) {
            return (others - rest) & rest;
        }

        /** Writes down the split of all strokes that the last search has found. */
        void tell(RunTable runs, PriceList prices, int all, Parts parts) {
            parts.begin();
            int left = all;
            for (int made = 0; made < MOST_STROKES && left != 0; made++) {
                int set = firstSet(runs, prices, left);
                int cost = runs.costOf(set);
                parts.add(set, lengthOf(cost), prices.ofRun(cost));
                left ^= set;
            }
        }

        private int firstSet(RunTable runs, PriceList prices, int set) {
            int lowest = set & -set;
            int rest = set ^ lowest;
            int others = 0;
            for (int left = 1 << Integer.bitCount(rest); left > 0; left--) {
                if (sumWith(runs, prices, set, lowest | others) == sums[set]) {
                    return lowest | others;
                }
                others = nextWithin(others, rest);
            }
            return set;
        }
    }

    /** Packs runs into boxes. */
    private static final class Boxes {
        private static final int VOLTS_OF_ENDS = 50;
        /** How many boxes stands above the volts in the last one, which are 99,999 at most. */
        private static final int BOX_UNIT = 1 << 17;

        private final int[] volts = new int[MOST_STROKES];
        /** By set of runs: the fewest boxes for them, and then the least volts in the last one. */
        private final int[] fills = new int[SETS];

        int fewest(Parts parts, int rate, int voltage) {
            for (int k = 0; k < parts.size; k++) {
                volts[k] = parts.lengths[k] * rate + VOLTS_OF_ENDS;
                if (volts[k] > voltage) {
                    return NONE;
                }
            }
            int all = (1 << parts.size) - 1;
            // no box is like a full one: whatever comes first opens a new one
            fills[0] = voltage;
            for (int set = 1; set <= all; set++) {
                fills[set] = leastFill(parts.size, set, voltage);
            }
            return fills[all] / BOX_UNIT;
        }

        private int leastFill(int runs, int set, int voltage) {
            int least = Integer.MAX_VALUE;
            for (int k = 0; k < runs; k++) {
                if ((set & 1 << k) != 0) {
                    least = Math.min(least, putInto(fills[set ^ 1 << k], volts[k], voltage));
                }
            }
            return least;
        }

        private static int putInto(int fill, int wanted, int voltage) {
            if (fill % BOX_UNIT + wanted <= voltage) {
                return fill + wanted;
            }
            return (fill / BOX_UNIT + 1) * BOX_UNIT + wanted;
        }
    }

    /** In which order the joints are looked at for a dead run. */
    private static final class Joints {
        private int looks = 0;
        private int first = NONE;
        /** By first and last run of a stretch: its least sum of looks. */
        private final int[] least = new int[MOST_STROKES * MOST_STROKES];

        void weigh(Parts parts) {
            looks = 0;
            first = NONE;
            for (int from = parts.size - 1; from >= 0; from--) {
                least[from * MOST_STROKES + from] = 0;
                int length = parts.lengths[from];
                for (int to = from + 1; to < parts.size; to++) {
                    length += parts.lengths[to];
                    int joint = bestJoint(from, to);
                    least[from * MOST_STROKES + to] = length + bothSides(from, joint, to);
                }
            }
            if (parts.size > 1) {
                looks = least[parts.size - 1];
                first = bestJoint(0, parts.size - 1);
            }
        }

        private int bestJoint(int from, int to) {
            int best = from;
            for (int joint = from + 1; joint < to; joint++) {
                if (bothSides(from, joint, to) < bothSides(from, best, to)) {
                    best = joint;
                }
            }
            return best;
        }

        private int bothSides(int from, int joint, int to) {
            return least[from * MOST_STROKES + joint] + least[(joint + 1) * MOST_STROKES + to];
        }
    }
}
