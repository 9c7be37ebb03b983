import java.util.ArrayList;
import java.util.Arrays;
import java.util.List;

/**
 * Made-up rows of calls, answered by the shop and by a plain model that tries every run, every
 * split, every packing and every order of looks. The rows are the same each time.
 */
public final class ModelTest extends Due {
    /** The document promises nothing beyond so many calls on one object. */
    private static final int MOST_CALLS = 500;

    private static final int ROWS = 6000;
    private static long seed = 20261116L;

    public static void main(String[] args) {
        for (int row = 0; row < ROWS; row++) {
            int most = mostStrokes(row);
            int side = row % 3 == 0 ? 10 : 3 + row % 2;
            int before = compared();
            tryRow(row, most, side);
            due("row " + row + " is short enough", compared() - before <= MOST_CALLS, true);
        }
        end();
    }

    /** Only the last row is full, since the model tries all that there is. */
    private static int mostStrokes(int row) {
        if (row % 1000 == 999) {
            return row == ROWS - 1 ? 9 : 8;
        }
        return row % 100 == 99 ? 7 : row % 10 == 9 ? 6 : 5;
    }

    /** Two signs, one behind the other, on one object; the first is changed in between. */
    private static void tryRow(int row, int most, int side) {
        TubeShop shop = new TubeShop();
        Model model = new Model();
        for (int round = 0; round < 3; round++) {
            if (round == 2) {
                shop.anew();
                model.anew();
                askParts(row, shop, model);
            }
            addStrokes(row, shop, model, most, side);
            if (pick(2) == 0) {
                changePrices(row, shop, model);
            }
            askRuns(row, shop, model);
            trySplits(row, shop, model);
        }
    }

    private static void addStrokes(int row, TubeShop shop, Model model, int most, int side) {
        int wanted = most >= 8 ? most : Math.min(most, model.strokes.size() + pick(6));
        for (int tries = 0; tries < 30 && model.strokes.size() < wanted; tries++) {
            int x0 = pick(side);
            int y0 = pick(side);
            int far = pick(side);
            int x1 = x0 + (pick(3) - 1) * far;
            int y1 = pick(12) == 0 ? pick(side) : y0 + (pick(3) - 1) * far;
            due(row, "stroke", new int[] {x0, y0, x1, y1}, shop.stroke(x0, y0, x1, y1),
                model.stroke(x0, y0, x1, y1));
        }
        due(row, "count", new int[] {0}, shop.count(0), model.strokes.size());
        due(row, "count", new int[] {2}, shop.count(2), model.wholeLength());
        for (int asked = 0; asked < 6; asked++) {
            int k = pick(model.strokes.size() + 2) - 1;
            int what = pick(4) - 1;
            due(row, "look", new int[] {k, what}, look(shop, k, what), model.look(k, what));
        }
    }

    private static void changePrices(int row, TubeShop shop, Model model) {
        for (int k = pick(4); k >= 0; k--) {
            int what = pick(9) - 1;
            int n = pick(6) == 0 ? pick(104) - 2 : pick(9);
            due(row, "price", new int[] {what, n}, shop.price(what, n) ? 1 : 0,
                model.price(what, n) ? 1 : 0);
        }
    }

    private static void askRuns(int row, TubeShop shop, Model model) {
        int all = (1 << model.strokes.size()) - 1;
        for (int asked = 0; asked < 4; asked++) {
            int set = asked == 0 ? all : pick(all + 3) - 1;
            for (int what = 0; what <= 3; what++) {
                due(row, "run", new int[] {set, what}, shop.run(set, what), model.run(set, what));
            }
            int other = pick(2) == 0 ? -1 : 4;
            due(row, "run", new int[] {set, other}, shop.run(set, other), model.run(set, other));
            for (int k = -1; k <= Integer.bitCount(all); k++) {
                due(row, "step", new int[] {set, k}, shop.step(set, k), model.step(set, k));
            }
        }
    }

    private static void trySplits(int row, TubeShop shop, Model model) {
        for (int tried = pick(2); tried < 2; tried++) {
            int n = tried == 0 ? 9999 : pick(20) == 0 ? pick(10002) : 20 + pick(250);
            due(row, "longest", new int[] {n}, shop.longest(n) ? 1 : 0, model.longest(n) ? 1 : 0);
            due(row, "split", new int[0], shop.split(), model.split());
            askParts(row, shop, model);
        }
    }

    private static void askParts(int row, TubeShop shop, Model model) {
        for (int k = -1; k <= model.parts.size(); k++) {
            int what = pick(5) - 1;
            due(row, "part", new int[] {k, what}, part(shop, k, what), model.part(k, what));
            due(row, "part", new int[] {k, 0}, part(shop, k, 0), model.part(k, 0));
        }
        for (int what = -1; what <= 2; what++) {
            due(row, "dead", new int[] {what}, shop.dead(what), model.dead(what));
        }
        for (int fed = 0; fed < 4; fed++) {
            int rate = pick(8) == 0 ? pick(104) - 2 : pick(5);
            int voltage = pick(12) == 0 ? pick(100004) - 2 : 50 + pick(700);
            due(row, "feed", new int[] {rate, voltage}, shop.feed(rate, voltage),
                model.feed(rate, voltage));
        }
        due(row, "count", new int[] {1}, shop.count(1), model.there ? model.parts.size() : -1);
        due(row, "count", new int[] {3}, shop.count(3), model.wholePrice());
        due(row, "count", new int[] {4}, shop.count(4), model.most);
        due(row, "count", new int[] {5}, shop.count(5), -1);
    }

    private static int pick(int below) {
        seed = seed * 6364136223846793005L + 1442695040888963407L;
        return (int) ((seed >>> 33) % below);
    }

    private static void due(int row, String call, int[] given, int got, int want) {
        due("row " + row + ": " + call + Arrays.toString(given), got, want);
    }

    /** Knows only the document's words: it tries all that there is. */
    private static final class Model {
        final List<int[]> strokes = new ArrayList<>();
        final int[] prices = {0, 1, 2, 4, 8, 5, 1};
        int most = 9999;
        boolean there = false;
        List<int[]> parts = new ArrayList<>();

        private final Best[] known = new Best[512];
        private final int[][] links = new int[18 * 18][];
        private final int[] lengths = new int[9];
        private List<Integer> bestSplit;
        private int bestSplitPrice;

        void anew() {
            strokes.clear();
            there = false;
            parts = new ArrayList<>();
            forget();
        }

        private void forget() {
            Arrays.fill(known, null);
            Arrays.fill(links, null);
        }

        int stroke(int x0, int y0, int x1, int y1) {
            for (int at : new int[] {x0, y0, x1, y1}) {
                if (at < 0 || at > 9) {
                    return -1;
                }
            }
            if (strokes.size() == 9 || directionOf(x1 - x0, y1 - y0) < 0) {
                return -1;
            }
            lengths[strokes.size()] = walk(x0, y0, x1, y1);
            strokes.add(new int[] {x0, y0, x1, y1});
            return strokes.size() - 1;
        }

        /** The direction found by walking off in each of the eight. */
        private static int directionOf(int dx, int dy) {
            int[] stepX = {1, 1, 0, -1, -1, -1, 0, 1};
            int[] stepY = {0, 1, 1, 1, 0, -1, -1, -1};
            for (int d = 0; d < 8; d++) {
                for (int far = 1; far <= 9; far++) {
                    if (stepX[d] * far == dx && stepY[d] * far == dy) {
                        return d;
                    }
                }
            }
            return -1;
        }

        /** Walks the piece step by step. */
        private static int walk(int x0, int y0, int x1, int y1) {
            int x = x0;
            int y = y0;
            int length = 0;
            while (x != x1 || y != y1) {
                length += x != x1 && y != y1 ? 14 : 10;
                x += Integer.compare(x1, x);
                y += Integer.compare(y1, y);
            }
            return length;
        }

        int look(int k, int what) {
            if (k < 0 || k >= strokes.size()) {
                return INDEX;
            }
            int[] s = strokes.get(k);
            return what == 0 ? lengths[k]
                : what == 1 ? directionOf(s[2] - s[0], s[3] - s[1]) : ELEMENT;
        }

        int wholeLength() {
            return lengthOf((1 << strokes.size()) - 1);
        }

        private int lengthOf(int set) {
            int sum = 0;
            for (int k = 0; k < strokes.size(); k++) {
                sum += (set & 1 << k) != 0 ? lengths[k] : 0;
            }
            return sum;
        }

        boolean price(int what, int n) {
            if (what < 0 || what > 6 || n < 0 || n > 99) {
                return false;
            }
            prices[what] = n;
            forget();
            return true;
        }

        boolean longest(int n) {
            boolean can = n > 0 && n < 10000;
            most = can ? n : most;
            return can;
        }

        private Best best(int set) {
            if (set < 1 || set >= 1 << strokes.size()) {
                return null;
            }
            if (known[set] == null) {
                known[set] = new Best();
                tryRuns(known[set], set, new ArrayList<>(), new int[3]);
            }
            return known[set];
        }

        /**
         * Rows come in their order, so one that is only as good as the best never takes over; a
         * row is given up as soon as that is sure, with the strokes that are left still to come.
         */
        private void tryRuns(Best best, int left, List<Integer> row, int[] soFar) {
            if (best.row != null && (soFar[0] > best.pay
                || soFar[0] == best.pay && soFar[1] + lengthOf(left) >= best.length)) {
                return;
            }
            if (left == 0) {
                best.pay = soFar[0];
                best.length = soFar[1];
                best.jumps = soFar[2];
                best.row = new ArrayList<>(row);
                return;
            }
            for (int step = 0; step < 18; step++) {
                if ((left & 1 << step / 2) != 0) {
                    int[] then = goOn(row, step, soFar);
                    row.add(step);
                    tryRuns(best, left & ~(1 << step / 2), row, then);
                    row.remove(row.size() - 1);
                }
            }
        }

        private int[] goOn(List<Integer> row, int step, int[] soFar) {
            int[] then = soFar.clone();
            then[1] += lengths[step / 2];
            if (!row.isEmpty()) {
                int before = row.get(row.size() - 1);
                int at = 18 * before + step;
                if (links[at] == null) {
                    links[at] = link(way(before), way(step));
                }
                for (int k = 0; k < 3; k++) {
                    then[k] += links[at][k];
                }
            }
            return then;
        }

        /** What lies between two steps: pay, length, jumps. */
        private int[] link(int[] b, int[] s) {
            if (b[2] != s[0] || b[3] != s[1]) {
                return new int[] {prices[5], walk(b[2], b[3], s[0], s[1]), 1};
            }
            int d = directionOf(b[2] - b[0], b[3] - b[1]);
            int e = directionOf(s[2] - s[0], s[3] - s[1]);
            int k = 0;
            while ((d + k) % 8 != e && (e + k) % 8 != d) {
                k++;
            }
            return new int[] {prices[k], 0, 0};
        }

        private int[] way(int step) {
            int[] s = strokes.get(step / 2);
            return step % 2 == 0 ? s : new int[] {s[2], s[3], s[0], s[1]};
        }

        private int priceOf(Best best) {
            return best.pay + prices[6] * best.length / 10;
        }

        int run(int set, int what) {
            Best best = best(set);
            if (best == null || what < 0 || what > 3) {
                return -1;
            }
            return what == 0 ? best.pay : what == 1 ? best.length
                : what == 2 ? priceOf(best) : best.jumps;
        }

        int step(int set, int k) {
            Best best = best(set);
            return best == null || k < 0 || k >= best.row.size() ? -1 : best.row.get(k);
        }

        int split() {
            bestSplit = null;
            trySplit((1 << strokes.size()) - 1, new ArrayList<>());
            if (bestSplit == null) {
                return -1;
            }
            there = true;
            parts = new ArrayList<>();
            for (int set : bestSplit) {
                parts.add(new int[] {set, best(set).length, priceOf(best(set))});
            }
            return parts.size();
        }

        private void trySplit(int left, List<Integer> sets) {
            if (left == 0) {
                int sum = 0;
                for (int set : sets) {
                    sum += priceOf(best(set));
                }
                if (bestSplit == null || sets.size() < bestSplit.size()
                    || sets.size() == bestSplit.size() && sum < bestSplitPrice) {
                    bestSplit = new ArrayList<>(sets);
                    bestSplitPrice = sum;
                }
                return;
            }
            for (int set = 1; set <= left; set++) {
                boolean fits = (set & left) == set && (set & left & -left) != 0;
                if (fits && best(set).length <= most) {
                    sets.add(set);
                    trySplit(left & ~set, sets);
                    sets.remove(sets.size() - 1);
                }
            }
        }

        int part(int k, int what) {
            if (k < 0 || k >= parts.size()) {
                return INDEX;
            }
            return what < 0 || what > 2 ? ELEMENT : parts.get(k)[what];
        }

        int wholePrice() {
            int sum = 0;
            for (int[] part : parts) {
                sum += part[2];
            }
            return there ? sum : -1;
        }

        int feed(int rate, int voltage) {
            if (rate < 0 || rate > 99 || voltage < 1 || voltage > 99999 || !there) {
                return -1;
            }
            for (int[] part : parts) {
                if (part[1] * rate + 50 > voltage) {
                    return -1;
                }
            }
            return tryBoxes(0, new int[9], 0, rate, voltage);
        }

        private int tryBoxes(int k, int[] boxes, int open, int rate, int voltage) {
            if (k == parts.size()) {
                return open;
            }
            int fewest = Integer.MAX_VALUE;
            int wants = parts.get(k)[1] * rate + 50;
            for (int box = 0; box <= open; box++) {
                if (boxes[box] + wants <= voltage) {
                    boxes[box] += wants;
                    int then = tryBoxes(k + 1, boxes, Math.max(open, box + 1), rate, voltage);
                    fewest = Math.min(fewest, then);
                    boxes[box] -= wants;
                }
            }
            return fewest;
        }

        int dead(int what) {
            if (!there || what < 0 || what > 1) {
                return -1;
            }
            int last = parts.size() - 1;
            if (what == 0 || last < 1) {
                return what == 0 ? looks(0, last, 0) : -1;
            }
            int first = 0;
            while (looks(0, first, 1) + looks(first + 1, last, 1) != looks(0, last, 0)) {
                first++;
            }
            return first;
        }

        /** The least sum over a stretch, when so many looks have been made already. */
        private int looks(int from, int to, int made) {
            if (from >= to) {
                return from > to ? 0 : made * parts.get(from)[1];
            }
            int least = Integer.MAX_VALUE;
            for (int joint = from; joint < to; joint++) {
                int both = looks(from, joint, made + 1) + looks(joint + 1, to, made + 1);
                least = Math.min(least, both);
            }
            return least;
        }
    }

    private static final class Best {
        int pay;
        int length;
        int jumps;
        List<Integer> row;
    }
}
