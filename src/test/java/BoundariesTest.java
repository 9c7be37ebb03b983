/**
 * A test of its own for each sentence of the document that names a boundary: too small, too large,
 * empty, full, a way round, a refused call. Each stands behind the document's own words.
 */
public final class BoundariesTest extends Due {
    private static final int[] DX = {1, 1, 0, -1, -1, -1, 0, 1};
    private static final int[] DY = {0, 1, 1, 1, 0, -1, -1, -1};

    private static String words = "";

    public static void main(String[] args) {
        terms();
        promisesOneToSeven();
        promisesEightToThirteen();
        end();
    }

    private static void terms() {
        says("used for at most 512 calls", BoundariesTest::the512thCall);
        says("GRID: points x, y, 0 .. 9 each", BoundariesTest::edgesOfTheGrid);
        says("STROKES, at most 9, numbered from 0 on", BoundariesTest::nineStrokes);
        says("each from one point to another one", BoundariesTest::onePointAlone);
        says("straight along a row, a column or a diagonal", BoundariesTest::allPairsOfPoints);
        says("10 for each step along a row or column, 14", BoundariesTest::shortestAndLongest);
        says("0 .. 7, each 45 degrees on", BoundariesTest::eightDirections);
        says("backward: 4 on, modulo 8", BoundariesTest::backwardIsFourOn);
        says("0, 1, 2, 4, 8 at first", BoundariesTest::pricesAtFirst);
        says("0 .. 99 each", BoundariesTest::leastAndMostPrices);
        says("all of them, each once", BoundariesTest::eachStrokeOnce);
        says("if that begins where the one ahead ended", BoundariesTest::touchingOrNot);
        says("the shorter way round, 0 .. 4", BoundariesTest::shorterWayRound);
        says("14 for each step that x and y have both to go", BoundariesTest::allPieces);
        says("LENGTH of a RUN: of its STROKES and JUMPS' pieces", BoundariesTest::longestRun);
        says("cut (once for the RUN)", BoundariesTest::cutOnce);
        says("the least PAY (for BENDS and JUMPS alone)", BoundariesTest::payByOneLess);
        says("of several the least LENGTH", BoundariesTest::lengthOfSeveral);
        says("of several the first by its row of steps", BoundariesTest::firstRow);
        says("none longer than LONGEST", BoundariesTest::justLongest);
        says("such that they are fewest", BoundariesTest::fewestRuns);
        says("of several the least sum of PRICES", BoundariesTest::leastSumOfPrices);
        says("of several the first by sets", BoundariesTest::firstSets);
        says("its LENGTH times RATE, and 50", BoundariesTest::voltsOfARun);
        says("BOXES give VOLTAGE at most", BoundariesTest::fullBoxes);
        says("LOOKS: the least sum, over all RUNS", BoundariesTest::looksOfNine);
        says("FIRST: the joint with which that can begin (the least", BoundariesTest::leastFirst);
    }

    private static void promisesOneToSeven() {
        says("TubeShop()`: No STROKES, no SPLIT", BoundariesTest::newIsEmpty);
        says("Another sign: no STROKES, no SPLIT", BoundariesTest::anewIsEmpty);
        says("NONE: no such points", BoundariesTest::strokeOffTheGrid);
        says("not straight so", BoundariesTest::strokeNotStraight);
        says("or there are 9", BoundariesTest::strokeBeyondNine);
        says("Two may be alike", BoundariesTest::strokesAlike);
        says("true; false: no such ones", BoundariesTest::noSuchPrice);
        says("LONGEST (1 .. 9999, 9999 at first)", BoundariesTest::leastAndMostLongest);
        says("false, and it stays: it can't be", BoundariesTest::longestThatCannotBe);
        says("NONE: no such set (it has one STROKE at least)", BoundariesTest::runOfNoSuchSet);
        says("no such set (it has one STROKE at least), what", BoundariesTest::runOfNoSuchWhat);
        says("Step k of the BEST RUN over a set; NONE", BoundariesTest::noSuchStep);
    }

    private static void promisesEightToThirteen() {
        says("how many RUNS (0 without STROKES)", BoundariesTest::splitOfNothing);
        says("NONE: there is no such split", BoundariesTest::noSuchSplit);
        says("the one at hand stays", BoundariesTest::splitAtHandStays);
        says("of the SPLIT at hand, as it was then", BoundariesTest::partAsItWasThen);
        says("IndexOutOfBoundsException: no such RUN", BoundariesTest::noSuchPart);
        says("NoSuchElementException: no such what", BoundariesTest::noSuchWhatOfPart);
        says("RATE (0 .. 99)", BoundariesTest::leastAndMostRate);
        says("VOLTAGE (1 .. 99999)", BoundariesTest::leastAndMostVoltage);
        says("NONE: no such ones, no SPLIT", BoundariesTest::feedWithoutSplit);
        says("or a RUN wants more than VOLTAGE", BoundariesTest::runWantsTooMuch);
        says("1: FIRST (NONE with one RUN at most)", BoundariesTest::deadOfOneAtMost);
        says("NONE: no SPLIT, no such what", BoundariesTest::noSuchDead);
        says("Exceptions as of part()", BoundariesTest::noSuchLook);
        says("RUNS of the SPLIT at hand (NONE without one)", BoundariesTest::countOfRuns);
        says("LENGTH of all STROKES", BoundariesTest::countOfLength);
        says("PRICE of the SPLIT at hand (NONE)", BoundariesTest::countOfPrice);
        says("4 LONGEST. NONE for another what", BoundariesTest::noSuchCount);
    }

    private static void says(String sentence, Runnable test) {
        words = sentence;
        test.run();
    }

    private static void is(String what, int got, int want) {
        due("\"" + words + "\": " + what, got, want);
    }

    private static void is(String what, boolean got, boolean want) {
        due("\"" + words + "\": " + what, got, want);
    }

    private static void isSame(String what, String got, String want) {
        due("\"" + words + "\": " + what, got, want);
    }

    // signs that several tests use

    /** Columns of 9 steps side by side: no two touch, neighbours are one step apart. */
    private static TubeShop columns(int many) {
        TubeShop shop = new TubeShop();
        for (int k = 0; k < many; k++) {
            shop.stroke(k, 0, k, 9);
        }
        return shop;
    }

    /** The same diagonal from corner to corner, nine times. */
    private static TubeShop nineDiagonals() {
        TubeShop shop = new TubeShop();
        for (int k = 0; k < 9; k++) {
            shop.stroke(0, 0, 9, 9);
        }
        return shop;
    }

    /** Rows below one another; the two shortest with one step between are longer than any one. */
    private static TubeShop rowsApart(int... steps) {
        TubeShop shop = new TubeShop();
        int most = 0;
        for (int k = 0; k < steps.length; k++) {
            shop.stroke(0, k, steps[k], k);
            most = Math.max(most, steps[k]);
        }
        shop.longest(10 * most);
        return shop;
    }

    /** Strokes so far from one another that each is a run of its own, as long as that can be. */
    private static TubeShop runsApart(int... points) {
        TubeShop shop = shopOf(points);
        int most = 0;
        for (int k = 0; k < points.length / 4; k++) {
            most = Math.max(most, look(shop, k, 0));
        }
        shop.longest(most);
        return splitOf(shop, points.length / 4);
    }

    private static TubeShop splitOf(TubeShop shop, int runs) {
        is("runs of the split", shop.split(), runs);
        return shop;
    }

    /** Arms of 1 and 2 steps from the point 5, 5; each is drawn to that point or away from it. */
    private static TubeShop arms(int first, boolean away, int second, boolean secondAway) {
        TubeShop shop = new TubeShop();
        arm(shop, first, 1, away);
        arm(shop, second, 2, secondAway);
        return shop;
    }

    private static void arm(TubeShop shop, int direction, int far, boolean away) {
        int x = 5 + far * DX[direction];
        int y = 5 + far * DY[direction];
        int number = away ? shop.stroke(5, 5, x, y) : shop.stroke(x, y, 5, 5);
        is("an arm", number >= 0, true);
    }

    /** All that a shop tells, to see that a refused call changes nothing (some 90 calls). */
    private static String stateOf(TubeShop shop) {
        StringBuilder text = new StringBuilder();
        for (int what = 0; what <= 4; what++) {
            text.append(shop.count(what)).append(' ');
        }
        int all = (1 << shop.count(0)) - 1;
        for (int k = 0; k < shop.count(0); k++) {
            text.append(look(shop, k, 0)).append('/').append(look(shop, k, 1)).append(' ');
            text.append(shop.step(all, k)).append(' ');
        }
        for (int what = 0; what <= 3; what++) {
            text.append(shop.run(all, what)).append(' ');
        }
        for (int k = 0; k < shop.count(1); k++) {
            text.append(part(shop, k, 0)).append('/').append(part(shop, k, 1)).append('/');
            text.append(part(shop, k, 2)).append(' ');
        }
        text.append(shop.feed(1, 500)).append(' ').append(shop.dead(0)).append(' ');
        return text.append(shop.dead(1)).toString();
    }

    private static int walk(int dx, int dy) {
        int length = 0;
        int wide = Math.abs(dx);
        int high = Math.abs(dy);
        while (wide > 0 || high > 0) {
            length += wide > 0 && high > 0 ? 14 : 10;
            wide--;
            high--;
        }
        return length;
    }

    // the document's head and its terms, section 1

    private static void the512thCall() {
        TubeShop shop = columns(9);
        int calls = 9;
        for (int round = 0; round < 251; round++) {
            int n = round * 7 % 100;
            is("a price", shop.price(5, n), true);
            is("eight jumps, round " + round, shop.run(511, 0), 8 * n);
            calls += 2;
        }
        is("calls so far", calls, 511);
        is("the 512th call", shop.split(), 1);
        TubeShop other = new TubeShop();
        for (int round = 0; round < 51; round++) {
            for (int k = 0; k < 9; k++) {
                is("a stroke of sign " + round, other.stroke(k, 0, k + 1, 0), k);
            }
            other.anew();
        }
        is("the 511th call", other.stroke(0, 0, 9, 9), 0);
        is("the 512th call of many signs", other.run(1, 1), 126);
    }

    private static void edgesOfTheGrid() {
        int[][] within = {
            {0, 3, 5, 3}, {9, 3, 5, 3}, {3, 0, 3, 5}, {3, 9, 3, 5},
            {5, 3, 0, 3}, {5, 3, 9, 3}, {3, 5, 3, 0}, {3, 5, 3, 9}, {0, 9, 9, 0},
        };
        TubeShop shop = new TubeShop();
        for (int k = 0; k < within.length; k++) {
            int[] s = within[k];
            is("stroke " + k + " on the edge", shop.stroke(s[0], s[1], s[2], s[3]), k);
        }
        int[][] beyond = {
            {-1, 3, 5, 3}, {10, 3, 5, 3}, {3, -1, 3, 5}, {3, 10, 3, 5},
            {5, 3, -1, 3}, {5, 3, 10, 3}, {3, 5, 3, -1}, {3, 5, 3, 10},
            {-1, -1, 0, 0}, {9, 9, 10, 10}, {0, 9, -1, 10}, {10, -1, 9, 0},
            {-1, 0, 10, 0}, {10, 10, 11, 11}, {-2, -2, -1, -1},
        };
        TubeShop other = new TubeShop();
        for (int k = 0; k < beyond.length; k++) {
            int[] s = beyond[k];
            is("stroke " + k + " one beyond", other.stroke(s[0], s[1], s[2], s[3]), -1);
        }
        is("none of them is there", other.count(0), 0);
    }

    private static void nineStrokes() {
        TubeShop shop = new TubeShop();
        for (int k = 0; k < 9; k++) {
            is("one point takes no number", shop.stroke(k, k, k, k), -1);
            is("number " + k, shop.stroke(k, k, k, k + 1), k);
            is("how many by now", shop.count(0), k + 1);
        }
        is("a tenth", shop.stroke(0, 0, 1, 0), -1);
        is("there are nine", shop.count(0), 9);
    }

    private static void onePointAlone() {
        TubeShop shop = new TubeShop();
        for (int at = 0; at < 100; at++) {
            is("point " + at, shop.stroke(at / 10, at % 10, at / 10, at % 10), -1);
        }
        is("none of them is there", shop.count(0), 0);
    }

    /** Every stroke that there can be on the grid, found by walking off in each direction. */
    private static void allPairsOfPoints() {
        int[] directions = new int[10000];
        java.util.Arrays.fill(directions, -1);
        for (int at = 0; at < 100; at++) {
            for (int way = 0; way < 72; way++) {
                int x = at / 10 + DX[way % 8] * (way / 8 + 1);
                int y = at % 10 + DY[way % 8] * (way / 8 + 1);
                if (x >= 0 && x <= 9 && y >= 0 && y <= 9) {
                    directions[100 * at + 10 * x + y] = way % 8;
                }
            }
        }
        TubeShop shop = new TubeShop();
        for (int pair = 0; pair < 10000; pair++) {
            if (pair % 100 == 0) {
                shop = new TubeShop();
            }
            tryPair(shop, pair, directions[pair]);
        }
    }

    private static void tryPair(TubeShop shop, int pair, int direction) {
        int x0 = pair / 1000;
        int y0 = pair / 100 % 10;
        int x1 = pair / 10 % 10;
        int y1 = pair % 10;
        String name = x0 + ", " + y0 + " to " + x1 + ", " + y1;
        is(name, shop.stroke(x0, y0, x1, y1), direction < 0 ? -1 : 0);
        if (direction >= 0) {
            is("direction of " + name, look(shop, 0, 1), direction);
            is("length of " + name, look(shop, 0, 0), walk(x1 - x0, y1 - y0));
            shop.anew();
        }
    }

    private static void shortestAndLongest() {
        TubeShop shop = shopOf(4, 4, 5, 4, 4, 4, 4, 3, 0, 9, 9, 9, 9, 9, 9, 0,
            4, 4, 5, 5, 4, 4, 3, 5, 0, 0, 9, 9, 0, 9, 9, 0);
        int[] lengths = {10, 10, 90, 90, 14, 14, 126, 126};
        for (int k = 0; k < lengths.length; k++) {
            is("stroke " + k, look(shop, k, 0), lengths[k]);
            is("a run over stroke " + k + " alone", shop.run(1 << k, 1), lengths[k]);
        }
    }

    private static void eightDirections() {
        for (int d = 0; d < 8; d++) {
            for (int far = 1; far <= 4; far++) {
                TubeShop shop = new TubeShop();
                arm(shop, d, far, true);
                arm(shop, d, far, false);
                is("away in " + d, look(shop, 0, 1), d);
                is("back from " + d, look(shop, 1, 1), (d + 4) % 8);
            }
        }
    }

    /** To go straight on through the middle, an arm drawn away from it must be gone backward. */
    private static void backwardIsFourOn() {
        for (int d = 0; d < 8; d++) {
            TubeShop shop = arms(d, true, (d + 4) % 8, true);
            shop.price(0, 7);
            for (int what = 1; what <= 5; what++) {
                shop.price(what, 50 + what);
            }
            is("back along " + d + ", then straight on", shop.run(3, 0), 7);
            is("no jump", shop.run(3, 3), 0);
            is("backward is 1 more", shop.step(3, 0), 1);
            is("then forward", shop.step(3, 1), 2);
        }
    }

    private static void pricesAtFirst() {
        int[] first = {0, 1, 2, 4, 8};
        for (int k = 0; k <= 4; k++) {
            TubeShop shop = arms(4, false, k, true);
            is("the dearest jump, so that it bends", shop.price(5, 99), true);
            is("bend " + k, shop.run(3, 0), first[k]);
        }
        is("a jump", columns(2).run(3, 0), 5);
        is("10 length", shopOf(0, 0, 1, 0).run(1, 2), 1);
        is("90 length", shopOf(0, 0, 9, 0).run(1, 2), 9);
    }

    private static void leastAndMostPrices() {
        for (int n = 0; n <= 99; n += 99) {
            for (int k = 0; k <= 4; k++) {
                TubeShop shop = arms(4, false, k, true);
                shop.price(5, 99);
                is("bend " + k + " for " + n, shop.price(k, n), true);
                is("it pays " + n, shop.run(3, 0), n);
                is("and does not jump", shop.run(3, 3), 0);
            }
            TubeShop apart = columns(2);
            is("a jump for " + n, apart.price(5, n), true);
            is("it pays that", apart.run(3, 0), n);
            TubeShop one = shopOf(0, 0, 1, 0, 0, 0, 9, 9);
            is("10 length for " + n, one.price(6, n), true);
            is("10 length cost that", one.run(1, 2), n);
            is("126 length cost that, cut", one.run(2, 2), n == 0 ? 0 : 1247);
        }
    }

    // section 2

    private static void eachStrokeOnce() {
        TubeShop shop = new TubeShop();
        for (int set = 1; set < 512; set++) {
            if (set % 32 == 1) {
                shop = shopOf(0, 0, 2, 0, 2, 0, 2, 2, 2, 2, 0, 2, 0, 2, 0, 0, 0, 0, 2, 2,
                    9, 9, 7, 9, 2, 0, 0, 2, 5, 5, 5, 4, 2, 2, 5, 5);
            }
            int seen = 0;
            int steps = 0;
            for (int k = 0; k < Integer.bitCount(set); k++) {
                seen |= 1 << (shop.step(set, k) >> 1);
                steps++;
            }
            is("strokes of set " + set, seen, set);
            is("no step more of set " + set, shop.step(set, steps), -1);
        }
    }

    private static void touchingOrNot() {
        TubeShop touching = shopOf(0, 0, 3, 0, 3, 0, 6, 0);
        is("straight on is a bend", touching.run(3, 3), 0);
        is("of 0 times 45 degrees", touching.run(3, 0), 0);
        touching.price(0, 99);
        is("dear straight on: a jump", touching.run(3, 3), 1);
        is("over the second stroke", touching.run(3, 1), 30 + 30 + 30);
        TubeShop gap = shopOf(0, 0, 3, 0, 4, 0, 6, 0);
        is("one step apart: pay", gap.run(3, 0), 5);
        is("one step apart: jumps", gap.run(3, 3), 1);
        is("one step apart: length", gap.run(3, 1), 30 + 10 + 20);
        TubeShop across = shopOf(0, 0, 3, 0, 4, 1, 6, 1);
        is("one diagonal step apart", across.run(3, 1), 30 + 14 + 20);
        TubeShop sameX = shopOf(0, 0, 3, 3, 3, 4, 3, 9);
        is("the same x alone", sameX.run(3, 3), 1);
        TubeShop sameY = shopOf(0, 0, 3, 3, 4, 3, 9, 3);
        is("the same y alone", sameY.run(3, 3), 1);
        TubeShop cross = shopOf(0, 0, 4, 4, 0, 4, 4, 0);
        is("crossing is no touching", cross.run(3, 3), 1);
        is("over the nearest ends", cross.run(3, 1), 56 + 40 + 56);
        TubeShop middle = shopOf(0, 0, 4, 0, 2, 0, 2, 3);
        is("a beginning on another's middle", middle.run(3, 3), 1);
        is("two steps from its end", middle.run(3, 1), 40 + 20 + 30);
        TubeShop corner = shopOf(9, 9, 8, 8, 9, 9, 9, 8);
        is("backward into the grid's last corner", corner.run(3, 3), 0);
        is("a bend of 135 degrees", corner.run(3, 0), 4);
    }

    /** All pairs of directions through the middle, in all ways to draw them. */
    private static void shorterWayRound() {
        int[] turns = {0, 1, 2, 3, 4, 3, 2, 1};
        for (int a = 0; a < 8; a++) {
            for (int b = 0; b < 8; b++) {
                int turn = turns[(b - (a + 4) + 16) % 8];
                for (int drawn = 0; drawn < 4; drawn++) {
                    TubeShop shop = arms(a, drawn % 2 == 1, b, drawn / 2 == 1);
                    for (int k = 0; k <= 4; k++) {
                        shop.price(k, 10 + k);
                    }
                    shop.price(5, 99);
                    String name = "from arm " + a + " to arm " + b + ", drawn " + drawn;
                    is(name, shop.run(3, 0), 10 + turn);
                    dueSteps(name, shop, 3, drawn % 2, drawn / 2 == 1 ? 2 : 3);
                }
            }
        }
    }

    /**
     * Triangles that pay nothing only if they are begun and ended at their right angle: so one
     * jump leads from the first one's right angle at 0, 0 to the second one's, wherever that is.
     */
    private static void allPieces() {
        for (int at = 2; at < 100; at++) {
            int x = at % 10;
            int y = at / 10;
            if (x + y > 1) {
                TubeShop shop = new TubeShop();
                triangle(shop, 0, 0);
                triangle(shop, x, y);
                shop.price(1, 0);
                shop.price(2, 50);
                shop.price(3, 0);
                shop.price(4, 0);
                String name = "a piece " + x + " by " + y;
                is(name, shop.run(63, 1), 34 + walk(x, y) + 34);
                is(name + " pays one jump", shop.run(63, 0), 5);
                is(name + " is one jump", shop.run(63, 3), 1);
            }
        }
        is("the longest piece", walk(9, 9), 126);
        is("nearly the longest", walk(9, 8), 122);
    }

    private static void triangle(TubeShop shop, int x, int y) {
        int besides = x < 9 ? x + 1 : x - 1;
        int above = y < 9 ? y + 1 : y - 1;
        shop.stroke(x, y, besides, y);
        shop.stroke(besides, y, x, above);
        is("a triangle", shop.stroke(x, above, x, y) >= 0, true);
    }

    private static void longestRun() {
        TubeShop shop = nineDiagonals();
        shop.price(4, 99);
        shop.price(5, 0);
        is("9 strokes and 8 pieces", shop.run(511, 1), 17 * 126);
        is("for nothing", shop.run(511, 0), 0);
        is("8 jumps", shop.run(511, 3), 8);
        shop.price(5, 98);
        shop.price(6, 99);
        is("longest at the dearest jump: pay", shop.run(511, 0), 8 * 98);
        is("length", shop.run(511, 1), 2142);
        is("price", shop.run(511, 2), 784 + 21205);
        dueSteps("all one way", shop, 511, 0, 2, 4, 6, 8, 10, 12, 14, 16);
        shop.price(5, 99);
        is("as dear as the bends: pay", shop.run(511, 0), 8 * 99);
        is("so the bends, without pieces", shop.run(511, 1), 9 * 126);
        is("price of bends", shop.run(511, 2), 792 + 11226);
        dueSteps("to and fro", shop, 511, 0, 3, 4, 7, 8, 11, 12, 15, 16);
    }

    private static void cutOnce() {
        TubeShop shop = shopOf(0, 0, 1, 1, 1, 1, 2, 2, 2, 2, 3, 3);
        is("14: 1.4", shop.run(1, 2), 1);
        is("28: 2.8", shop.run(3, 2), 2);
        is("42: 4.2, not three times 1", shop.run(7, 2), 4);
        shop.price(6, 5);
        is("70 by 10: nothing to cut", shop.run(1, 2), 7);
        shop.price(6, 7);
        is("9.8 is cut, not rounded", shop.run(1, 2), 9);
        is("29.4, not three times 9", shop.run(7, 2), 29);
        shop.longest(14);
        splitOf(shop, 3);
        is("three runs are cut three times", shop.count(3), 27);
        TubeShop jump = shopOf(0, 0, 1, 1, 2, 2, 3, 3);
        is("stroke, piece and stroke are cut as one", jump.run(3, 2), 5 + 4);
    }

    private static void payByOneLess() {
        TubeShop shop = shopOf(0, 0, 2, 0, 0, 0, 4, 0);
        shop.price(6, 99);
        shop.price(4, 6);
        is("the jump pays 1 less than the bend", shop.run(3, 3), 1);
        is("though it is longer", shop.run(3, 1), 20 + 20 + 40);
        is("and dearer", shop.run(3, 2), 5 + 792);
        shop.price(4, 4);
        is("the bend pays 1 less than the jump", shop.run(3, 3), 0);
        is("and is shorter", shop.run(3, 1), 60);
        is("and cheaper", shop.run(3, 2), 4 + 594);
    }

    private static void lengthOfSeveral() {
        TubeShop shop = shopOf(0, 0, 2, 0, 0, 0, 4, 0);
        shop.price(4, 5);
        is("jump and bend pay the same", shop.run(3, 0), 5);
        is("the bend is shorter", shop.run(3, 1), 60);
        is("so it has no jump", shop.run(3, 3), 0);
        shop.price(6, 0);
        is("even if length costs nothing", shop.run(3, 1), 60);
        TubeShop gaps = shopOf(5, 0, 6, 0, 0, 0, 3, 0);
        is("over 2 steps, not over 3, 5 or 6", gaps.run(3, 1), 10 + 20 + 30);
        dueSteps("though another row comes ahead", gaps, 3, 1, 3);
    }

    private static void firstRow() {
        TubeShop alone = shopOf(0, 0, 1, 0);
        dueSteps("forward ahead of backward", alone, 1, 0);
        TubeShop two = shopOf(0, 0, 1, 0, 1, 0, 2, 0);
        dueSteps("from stroke 0 ahead of from stroke 1", two, 3, 0, 2);
        TubeShop square = shopOf(0, 0, 2, 0, 2, 0, 2, 2, 2, 2, 0, 2, 0, 2, 0, 0);
        dueSteps("one of eight ways round", square, 15, 0, 2, 4, 6);
        TubeShop turned = shopOf(0, 0, 2, 0, 0, 2, 0, 0, 2, 2, 0, 2, 2, 0, 2, 2);
        dueSteps("the second step tells", turned, 15, 0, 6, 4, 2);
        TubeShop nine = nineDiagonals();
        nine.price(4, 5);
        dueSteps("nine alike", nine, 511, 0, 3, 4, 7, 8, 11, 12, 15, 16);
        TubeShop back = shopOf(1, 0, 0, 0, 2, 0, 1, 0);
        dueSteps("0 backward ahead of 1 forward", back, 3, 1, 3);
    }

    // section 3

    private static void justLongest() {
        TubeShop shop = shopOf(0, 0, 3, 0, 3, 0, 6, 0, 6, 0, 9, 0);
        shop.longest(90);
        splitOf(shop, 1);
        shop.longest(89);
        splitOf(shop, 2);
        shop.longest(60);
        splitOf(shop, 2);
        shop.longest(59);
        splitOf(shop, 3);
        shop.longest(30);
        splitOf(shop, 3);
        shop.longest(29);
        splitOf(shop, -1);
        TubeShop jump = shopOf(0, 0, 3, 0, 0, 2, 3, 2);
        jump.longest(80);
        splitOf(jump, 1);
        jump.longest(79);
        splitOf(jump, 2);
        TubeShop bend = shopOf(0, 0, 2, 0, 0, 0, 4, 0);
        bend.longest(79);
        is("the bend back would be 60 long, but is not the best", bend.split(), 2);
    }

    private static void fewestRuns() {
        TubeShop dear = shopOf(0, 0, 1, 0, 9, 9, 8, 9);
        dear.price(5, 99);
        dear.price(6, 99);
        splitOf(dear, 1);
        is("however dear", dear.count(3), 99 + 99 * 138 / 10);
        splitOf(columns(9), 1);
        TubeShop nine = columns(9);
        nine.longest(189);
        splitOf(nine, 9);
        nine.longest(190);
        splitOf(nine, 5);
        nine.longest(90);
        splitOf(nine, 9);
        is("the last of nine", part(nine, 8, 0), 256);
    }

    private static void leastSumOfPrices() {
        TubeShop shop = shopOf(0, 0, 3, 0, 0, 1, 3, 1, 3, 0, 6, 0);
        shop.longest(70);
        splitOf(shop, 2);
        is("straight on is cheaper than sets 1 and 3", part(shop, 0, 0), 5);
        is("the sum", shop.count(3), 6 + 3);
        shop.price(0, 6);
        splitOf(shop, 2);
        is("a jump now costs less", part(shop, 0, 0), 1);
        TubeShop byOne = shopOf(0, 0, 1, 1, 1, 1, 2, 2, 2, 2, 4, 4);
        byOne.longest(42);
        splitOf(byOne, 2);
        is("2.8 and 2.8 cut are 1 less than 1.4 and 4.2", part(byOne, 0, 0), 3);
        is("their sum", byOne.count(3), 2 + 2);
        byOne.price(6, 2);
        splitOf(byOne, 2);
        is("5.6 and 5.6 cut are no less than 2.8 and 8.4", part(byOne, 0, 0), 1);
        is("their sum then", byOne.count(3), 2 + 8);
    }

    private static void firstSets() {
        TubeShop row = shopOf(0, 0, 1, 0, 1, 0, 2, 0, 2, 0, 3, 0, 3, 0, 4, 0);
        row.longest(30);
        splitOf(row, 2);
        is("the least set with stroke 0", part(row, 0, 0), 1);
        is("all the rest", part(row, 1, 0), 14);
        TubeShop square = shopOf(0, 0, 2, 0, 2, 0, 2, 2, 2, 2, 0, 2, 0, 2, 0, 0);
        square.longest(40);
        splitOf(square, 2);
        is("3 ahead of 9", part(square, 0, 0), 3);
        is("12 is left", part(square, 1, 0), 12);
        TubeShop later = shopOf(0, 0, 9, 0, 0, 2, 3, 2, 3, 2, 3, 5, 3, 5, 0, 5, 0, 5, 0, 2);
        later.longest(90);
        splitOf(later, 3);
        is("stroke 0 alone", part(later, 0, 0), 1);
        is("the least set with the least stroke left", part(later, 1, 0), 2);
        is("the rest of the square", part(later, 2, 0), 28);
    }

    private static void voltsOfARun() {
        TubeShop shop = splitOf(shopOf(0, 0, 1, 0), 1);
        is("rate 0 wants 50", shop.feed(0, 50), 1);
        is("not 51", shop.feed(0, 49), -1);
        is("rate 1 wants 60", shop.feed(1, 60), 1);
        is("not less", shop.feed(1, 59), -1);
        is("rate 99 wants 1040", shop.feed(99, 1040), 1);
        is("not a volt less", shop.feed(99, 1039), -1);
        TubeShop jump = splitOf(shopOf(0, 0, 1, 0, 2, 0, 3, 0), 1);
        is("pieces count, and 50 but once", jump.feed(2, 110), 1);
        is("pieces do count", jump.feed(2, 109), -1);
    }

    private static void fullBoxes() {
        TubeShop nine = columns(9);
        nine.longest(90);
        splitOf(nine, 9);
        int[] inABox = {9, 5, 3, 3, 2, 2, 2, 2, 1};
        for (int many = 1; many <= 9; many++) {
            is(many + " fill a box", nine.feed(1, 140 * many), inABox[many - 1]);
            is(many + " lack one volt", nine.feed(1, 140 * many - 1),
                many == 1 ? -1 : inABox[many - 2]);
        }
        TubeShop packed = runsApart(0, 0, 5, 0, 9, 0, 9, 1, 0, 2, 4, 2, 7, 9, 9, 9,
            0, 4, 3, 4, 0, 6, 3, 6);
        is("pairs that fill three boxes: 50 10, 40 20, 30 30", packed.feed(10, 700), 3);
        is("a volt less for the pairs", packed.feed(10, 699), 4);
    }

    private static void looksOfNine() {
        TubeShop nine = nineDiagonals();
        nine.longest(126);
        splitOf(nine, 9);
        is("7 with 3 looks, 2 with 4", nine.dead(0), 126 * 29);
        is("four ahead, five behind", nine.dead(1), 3);
        TubeShop steep = runsApart(0, 0, 9, 0, 0, 9, 4, 9, 0, 2, 2, 2, 9, 9, 9, 8);
        is("the longest first", steep.dead(0), 90 + 80 + 60 + 30);
        is("behind the first", steep.dead(1), 0);
        TubeShop turned = runsApart(9, 9, 9, 8, 0, 2, 2, 2, 0, 9, 4, 9, 0, 0, 9, 0);
        is("the longest last", turned.dead(0), 90 + 80 + 60 + 30);
        is("behind the last but one", turned.dead(1), 2);
        TubeShop between = runsApart(0, 0, 1, 0, 0, 4, 9, 4, 9, 9, 8, 9);
        is("the row stays as it hangs", between.dead(0), 10 + 180 + 20);
    }

    private static void leastFirst() {
        TubeShop three = splitOf(rowsApart(9, 9, 9), 3);
        is("both joints can begin", three.dead(1), 0);
        TubeShop between = runsApart(0, 0, 1, 0, 0, 4, 9, 4, 9, 9, 8, 9);
        is("both joints can begin again", between.dead(1), 0);
        TubeShop four = splitOf(rowsApart(9, 9, 9, 9), 4);
        is("only the middle one can begin", four.dead(1), 1);
        TubeShop five = splitOf(rowsApart(9, 9, 9, 9, 9), 5);
        is("two ahead or three ahead", five.dead(1), 1);
        TubeShop chosen = splitOf(rowsApart(2, 1, 1, 2), 4);
        is("looks of 20 10 10 20", chosen.dead(0), 120);
        is("behind the first is as good as the middle", chosen.dead(1), 0);
        TubeShop last = splitOf(rowsApart(1, 2), 2);
        is("the only one", last.dead(1), 0);
    }

    // promises 1 to 7

    private static void newIsEmpty() {
        is("strokes", new TubeShop().count(0), 0);
        is("length", new TubeShop().count(2), 0);
        is("runs", new TubeShop().count(1), -1);
        is("price", new TubeShop().count(3), -1);
        is("look", look(new TubeShop(), 0, 0), INDEX);
        is("part", part(new TubeShop(), 0, 0), INDEX);
        is("run", new TubeShop().run(1, 0), -1);
        is("step", new TubeShop().step(1, 0), -1);
        is("feed", new TubeShop().feed(0, 50), -1);
        is("looks", new TubeShop().dead(0), -1);
        is("first", new TubeShop().dead(1), -1);
        is("the first number", new TubeShop().stroke(0, 0, 1, 0), 0);
        TubeShop full = splitOf(nineDiagonals(), 1);
        full.price(5, 1);
        full.longest(1);
        TubeShop other = new TubeShop();
        is("another object's strokes", other.count(0), 0);
        is("another object's split", other.count(1), -1);
        is("another object's longest", other.count(4), 9999);
        is("another object's prices", columns(2).run(3, 0), 5);
    }

    private static void anewIsEmpty() {
        TubeShop shop = new TubeShop();
        String fresh = stateOf(shop);
        shop.anew();
        isSame("anew of a new one", stateOf(shop), fresh);
        TubeShop full = splitOf(columns(9), 1);
        full.anew();
        isSame("anew of a full one with a split", stateOf(full), fresh);
        is("no part", part(full, 0, 0), INDEX);
        is("no stroke", look(full, 0, 0), INDEX);
        is("no run", full.run(1, 0), -1);
        is("no step", full.step(1, 0), -1);
        full.anew();
        isSame("anew twice", stateOf(full), fresh);
        TubeShop empty = splitOf(new TubeShop(), 0);
        empty.anew();
        isSame("anew of an empty split", stateOf(empty), fresh);
        anewMakesRoom();
        anewKeepsPricesAndLongest();
    }

    private static void anewMakesRoom() {
        TubeShop shop = nineDiagonals();
        is("asked ahead", shop.run(511, 3), 8);
        shop.anew();
        for (int k = 0; k < 9; k++) {
            is("room for stroke " + k, shop.stroke(k, 0, k + 1, 0), k);
        }
        is("no room for a tenth", shop.stroke(0, 0, 1, 0), -1);
        is("runs are those of the new sign", shop.run(511, 1), 90);
        is("with no jump", shop.run(511, 3), 0);
        dueSteps("\"" + words + "\": its way", shop, 511, 0, 2, 4, 6, 8, 10, 12, 14, 16);
    }

    private static void anewKeepsPricesAndLongest() {
        TubeShop shop = columns(2);
        shop.price(5, 42);
        shop.longest(189);
        shop.anew();
        is("longest stays", shop.count(4), 189);
        shop.stroke(0, 0, 0, 9);
        shop.stroke(1, 0, 1, 9);
        is("the jump's price stays", shop.run(3, 0), 42);
        splitOf(shop, 2);
    }

    private static void strokeOffTheGrid() {
        TubeShop shop = splitOf(shopOf(0, 0, 3, 3), 1);
        String before = stateOf(shop);
        for (int far : FAR) {
            is("x0 " + far, shop.stroke(far, 3, 3, 3), -1);
            is("y0 " + far, shop.stroke(3, far, 3, 3), -1);
            is("x1 " + far, shop.stroke(3, 3, far, 3), -1);
            is("y1 " + far, shop.stroke(3, 3, 3, far), -1);
            is("both " + far, shop.stroke(far, far, 3, 3), -1);
            is("all " + far, shop.stroke(far, far, far, far), -1);
        }
        is("least to most", shop.stroke(Integer.MIN_VALUE, 0, Integer.MAX_VALUE, 0), -1);
        is("a way round to 4", shop.stroke(4 - Integer.MIN_VALUE, 0, 4, 0), -1);
        isSame("nothing is changed", stateOf(shop), before);
        is("the next number", shop.stroke(0, 0, 3, 3), 1);
    }

    private static void strokeNotStraight() {
        TubeShop shop = splitOf(shopOf(0, 0, 3, 3), 1);
        String before = stateOf(shop);
        int[][] bent = {
            {0, 0, 1, 2}, {0, 0, 2, 1}, {5, 5, 4, 3}, {5, 5, 3, 6}, {0, 0, 9, 8}, {0, 0, 8, 9},
            {9, 0, 0, 8}, {9, 9, 0, 1}, {0, 9, 9, 1}, {4, 4, 4, 4}, {0, 0, 0, 0}, {9, 9, 9, 9},
        };
        for (int[] s : bent) {
            is("to " + s[2] + ", " + s[3], shop.stroke(s[0], s[1], s[2], s[3]), -1);
        }
        isSame("nothing is changed", stateOf(shop), before);
        is("the next number", shop.stroke(0, 0, 3, 3), 1);
    }

    private static void strokeBeyondNine() {
        TubeShop shop = splitOf(columns(9), 1);
        String before = stateOf(shop);
        is("a tenth", shop.stroke(9, 0, 9, 9), -1);
        is("a tenth like another one", shop.stroke(0, 0, 0, 9), -1);
        is("a tenth that is none", shop.stroke(0, 0, 0, 0), -1);
        isSame("nothing is changed", stateOf(shop), before);
        is("no set with a tenth", shop.run(1 << 9, 1), -1);
        is("no look at a tenth", look(shop, 9, 0), INDEX);
        TubeShop eight = columns(8);
        is("a ninth", eight.stroke(9, 0, 9, 9), 8);
        is("its length", look(eight, 8, 0), 90);
        is("its direction", look(eight, 8, 1), 2);
    }

    private static void strokesAlike() {
        TubeShop shop = new TubeShop();
        for (int k = 0; k < 9; k++) {
            is("alike " + k, shop.stroke(2, 2, 3, 2), k);
        }
        is("their length", shop.count(2), 90);
        TubeShop pair = shopOf(2, 2, 3, 2, 3, 2, 2, 2);
        is("the same one backward", look(pair, 1, 1), 4);
        pair.price(4, 3);
        is("back at once", pair.run(3, 0), 3);
        dueSteps("\"" + words + "\": forward both", pair, 3, 0, 2);
    }

    /** Signs on which each of the seven prices can be seen. */
    private static String pricesOf(TubeShop shop) {
        StringBuilder text = new StringBuilder();
        for (int other = 1; other <= 6; other++) {
            text.append(shop.run(1 | 1 << other, 0)).append(' ');
        }
        return text.append(shop.run(1, 2)).toString();
    }

    private static void noSuchPrice() {
        TubeShop shop = shopOf(0, 5, 5, 5, 5, 5, 6, 5, 5, 5, 6, 6, 5, 5, 5, 6, 5, 5, 4, 6,
            5, 5, 4, 5, 0, 0, 1, 0);
        int[] put = {11, 12, 13, 14, 15, 90, 7};
        for (int what = 0; what <= 6; what++) {
            is("price " + what, shop.price(what, put[what]), true);
        }
        String before = "11 12 13 14 15 90 35";
        isSame("all seven", pricesOf(shop), before);
        for (int what = 0; what <= 6; what++) {
            for (int n : new int[] {-1, 100, 101, -99, Integer.MIN_VALUE, Integer.MAX_VALUE}) {
                is("price " + what + " of " + n, shop.price(what, n), false);
            }
        }
        for (int what : new int[] {-1, 7, 8, -7, 256, Integer.MIN_VALUE, Integer.MAX_VALUE}) {
            is("price " + what, shop.price(what, 1), false);
            is("price " + what + " and n", shop.price(what, 100), false);
        }
        isSame("all seven stay", pricesOf(shop), before);
    }

    private static void leastAndMostLongest() {
        TubeShop shop = shopOf(0, 0, 1, 0);
        is("at first", shop.count(4), 9999);
        is("least", shop.longest(1), true);
        is("least counted", shop.count(4), 1);
        is("nothing is so short", shop.split(), -1);
        is("most", shop.longest(9999), true);
        is("most counted", shop.count(4), 9999);
        splitOf(shop, 1);
        TubeShop longOne = nineDiagonals();
        longOne.price(4, 99);
        splitOf(longOne, 1);
        is("the longest run there is", part(longOne, 0, 1), 2142);
        longOne.longest(2142);
        splitOf(longOne, 1);
        longOne.longest(2141);
        splitOf(longOne, 2);
    }

    private static void longestThatCannotBe() {
        TubeShop shop = splitOf(columns(2), 1);
        String before = stateOf(shop);
        for (int n : new int[] {0, -1, 10000, 10001, -9999, Integer.MIN_VALUE, Integer.MAX_VALUE}) {
            is("longest " + n, shop.longest(n), false);
            is("it stays behind " + n, shop.count(4), 9999);
        }
        isSame("nothing is changed", stateOf(shop), before);
        shop.longest(189);
        is("0 behind 189", shop.longest(0), false);
        is("10000 behind 189", shop.longest(10000), false);
        is("189 stays", shop.count(4), 189);
        splitOf(shop, 2);
    }

    private static void runOfNoSuchSet() {
        for (int many = 0; many <= 9; many++) {
            TubeShop shop = columns(many);
            for (int what = 0; what <= 3; what++) {
                is("the empty set of " + many, shop.run(0, what), -1);
                is("the next stroke of " + many, shop.run(1 << many, what), -1);
                is("one set too far of " + many, shop.run((2 << many) - 1, what), -1);
                is("a negative one of " + many, shop.run(-1, what), -1);
                is("the bits' sign of " + many, shop.run(Integer.MIN_VALUE | 1, what), -1);
                is("a bit beyond of " + many, shop.run(1 << 16 | 1, what), -1);
            }
            is("the whole set of " + many, shop.run((1 << many) - 1, 1),
                many == 0 ? -1 : 100 * many - 10);
            is("the last stroke of " + many, shop.run(1 << many >> 1, 1), many == 0 ? -1 : 90);
        }
    }

    private static void runOfNoSuchWhat() {
        TubeShop shop = columns(2);
        is("what 0", shop.run(3, 0), 5);
        is("what 3", shop.run(3, 3), 1);
        for (int what : new int[] {-1, 4, 5, -4, 256, Integer.MIN_VALUE, Integer.MAX_VALUE}) {
            is("what " + what, shop.run(3, what), -1);
            is("what " + what + " of no set", shop.run(0, what), -1);
            is("what " + what + " of a set beyond", shop.run(4, what), -1);
        }
    }

    private static void noSuchStep() {
        for (int many = 0; many <= 9; many++) {
            TubeShop shop = columns(many);
            int all = (1 << many) - 1;
            is("first of " + many, shop.step(all, 0), many == 0 ? -1 : 0);
            is("ahead of the first of " + many, shop.step(all, -1), -1);
            is("last of " + many, shop.step(all, many - 1) >= 0, many > 0);
            is("behind the last of " + many, shop.step(all, many), -1);
            is("the empty set of " + many, shop.step(0, 0), -1);
            is("the next stroke of " + many, shop.step(1 << many, 0), -1);
            is("a negative set of " + many, shop.step(-1, 0), -1);
            for (int far : FAR) {
                is("step " + far + " of " + many, shop.step(all, far), -1);
            }
        }
        TubeShop nine = columns(9);
        is("a long run first", nine.step(511, 8), 16);
        is("behind the only step of a short one", nine.step(1, 1), -1);
        is("behind the second of two", nine.step(5, 2), -1);
    }

    // promises 8 to 13

    private static void splitOfNothing() {
        TubeShop shop = new TubeShop();
        is("no runs", shop.split(), 0);
        is("but a split", shop.count(1), 0);
        is("for nothing", shop.count(3), 0);
        is("without a part", part(shop, 0, 0), INDEX);
        shop.longest(1);
        is("whatever the longest", shop.split(), 0);
        TubeShop other = columns(2);
        splitOf(other, 1);
        other.anew();
        is("behind anew", other.split(), 0);
        is("the old one is gone", part(other, 0, 0), INDEX);
    }

    private static void noSuchSplit() {
        TubeShop shop = shopOf(0, 0, 1, 0, 0, 2, 9, 2);
        shop.longest(89);
        is("one stroke is 1 too long", shop.split(), -1);
        is("there is none", shop.count(1), -1);
        is("no price", shop.count(3), -1);
        is("no part", part(shop, 0, 0), INDEX);
        is("no feed", shop.feed(0, 50), -1);
        is("no looks", shop.dead(0), -1);
        shop.longest(90);
        splitOf(shop, 2);
        TubeShop nine = nineDiagonals();
        nine.longest(125);
        splitOf(nine, -1);
        nine.longest(126);
        splitOf(nine, 9);
        TubeShop last = columns(8);
        last.stroke(0, 0, 9, 9);
        last.longest(125);
        splitOf(last, -1);
    }

    private static void splitAtHandStays() {
        TubeShop shop = columns(3);
        shop.longest(190);
        splitOf(shop, 2);
        String before = stateOf(shop);
        shop.longest(89);
        is("none", shop.split(), -1);
        shop.longest(190);
        isSame("the one at hand", stateOf(shop), before);
        TubeShop empty = splitOf(new TubeShop(), 0);
        empty.stroke(0, 0, 9, 0);
        empty.longest(1);
        is("none behind the empty one", empty.split(), -1);
        is("the empty one stays", empty.count(1), 0);
        is("its feed too", empty.feed(0, 1), 0);
        is("its looks too", empty.dead(0), 0);
    }

    private static void partAsItWasThen() {
        TubeShop shop = shopOf(0, 0, 3, 0, 3, 0, 3, 2);
        splitOf(shop, 1);
        shop.price(2, 50);
        shop.price(6, 9);
        shop.longest(1);
        shop.stroke(5, 5, 6, 6);
        is("the run is another one now", shop.run(3, 1), 70);
        is("set then", part(shop, 0, 0), 3);
        is("length then", part(shop, 0, 1), 50);
        is("price then", part(shop, 0, 2), 7);
        is("price of all then", shop.count(3), 7);
        is("volts then", shop.feed(1, 100), 1);
        is("not a volt less", shop.feed(1, 99), -1);
        is("runs then", shop.count(1), 1);
        shop.longest(9999);
        splitOf(shop, 1);
        is("set now", part(shop, 0, 0), 7);
        is("price now", part(shop, 0, 2), shop.run(7, 2));
    }

    private static void noSuchPart() {
        TubeShop shop = columns(9);
        is("no split yet", part(shop, 0, 0), INDEX);
        is("no split yet, number -1", part(shop, -1, 0), INDEX);
        shop.longest(90);
        splitOf(shop, 9);
        for (int what = 0; what <= 2; what++) {
            int same = what == 1 ? 90 : 9;
            is("the first, what " + what, part(shop, 0, what), what == 0 ? 1 : same);
            is("the ninth, what " + what, part(shop, 8, what), what == 0 ? 256 : same);
            is("a tenth, what " + what, part(shop, 9, what), INDEX);
            is("ahead of the first, what " + what, part(shop, -1, what), INDEX);
        }
        for (int far : FAR) {
            is("run " + far, part(shop, far, 0), INDEX);
            is("run and what " + far, part(shop, far, far), INDEX);
        }
        shop.longest(9999);
        splitOf(shop, 1);
        is("a run of the split before", part(shop, 1, 0), INDEX);
        is("the ninth of the split before", part(shop, 8, 2), INDEX);
        shop.anew();
        is("behind anew", part(shop, 0, 0), INDEX);
        splitOf(shop, 0);
        is("of the empty split", part(shop, 0, 0), INDEX);
    }

    private static void noSuchWhatOfPart() {
        TubeShop shop = splitOf(columns(1), 1);
        String before = stateOf(shop);
        for (int what : new int[] {-1, 3, 4, -3, 256, Integer.MIN_VALUE, Integer.MAX_VALUE}) {
            is("what " + what, part(shop, 0, what), ELEMENT);
            is("what " + what + " of no run", part(shop, 1, what), INDEX);
        }
        is("what 0", part(shop, 0, 0), 1);
        is("what 2", part(shop, 0, 2), 9);
        isSame("nothing is changed", stateOf(shop), before);
    }

    private static void leastAndMostRate() {
        TubeShop shop = splitOf(shopOf(0, 0, 1, 0), 1);
        is("0", shop.feed(0, 99999), 1);
        is("99", shop.feed(99, 99999), 1);
        for (int rate : new int[] {-1, 100, 101, -99, Integer.MIN_VALUE, Integer.MAX_VALUE}) {
            is("rate " + rate, shop.feed(rate, 99999), -1);
        }
        TubeShop empty = splitOf(new TubeShop(), 0);
        is("0 of no runs", empty.feed(0, 1), 0);
        is("99 of no runs", empty.feed(99, 1), 0);
        is("-1 of no runs", empty.feed(-1, 1), -1);
        is("100 of no runs", empty.feed(100, 1), -1);
    }

    private static void leastAndMostVoltage() {
        TubeShop shop = splitOf(shopOf(0, 0, 1, 0), 1);
        is("99999", shop.feed(0, 99999), 1);
        is("1 is too few for any run", shop.feed(0, 1), -1);
        for (int voltage : new int[] {0, -1, -50, 100000, 100001, Integer.MAX_VALUE}) {
            is("voltage " + voltage, shop.feed(0, voltage), -1);
        }
        TubeShop empty = splitOf(new TubeShop(), 0);
        is("1 for no runs", empty.feed(0, 1), 0);
        is("99999 for no runs", empty.feed(0, 99999), 0);
        is("0 for no runs", empty.feed(0, 0), -1);
        is("100000 for no runs", empty.feed(0, 100000), -1);
        TubeShop nine = nineDiagonals();
        nine.longest(126);
        splitOf(nine, 9);
        is("seven of 12524 and two", nine.feed(99, 99999), 2);
        is("seven just fit", nine.feed(99, 87668), 2);
        is("five just fit", nine.feed(99, 62620), 2);
        is("four just fit", nine.feed(99, 62619), 3);
        is("one just fits", nine.feed(99, 12524), 9);
    }

    private static void feedWithoutSplit() {
        TubeShop shop = columns(2);
        is("not yet", shop.feed(0, 99999), -1);
        shop.longest(1);
        splitOf(shop, -1);
        is("none was made", shop.feed(0, 99999), -1);
        shop.longest(90);
        splitOf(shop, 2);
        is("now", shop.feed(0, 100), 1);
        shop.anew();
        is("behind anew", shop.feed(0, 99999), -1);
        splitOf(shop, 0);
        is("an empty one wants no box", shop.feed(0, 99999), 0);
    }

    private static void runWantsTooMuch() {
        TubeShop shop = runsApart(0, 0, 1, 0, 0, 4, 9, 4, 9, 9, 7, 9);
        is("each has enough", shop.feed(1, 140), 2);
        is("one lacks a volt", shop.feed(1, 139), -1);
        TubeShop last = runsApart(0, 0, 1, 0, 9, 9, 7, 9, 0, 4, 9, 4);
        is("the last lacks a volt", last.feed(1, 139), -1);
        is("the last has enough", last.feed(1, 140), 2);
        TubeShop longOne = nineDiagonals();
        longOne.price(4, 0);
        splitOf(longOne, 1);
        is("1134 times 88, and 50", longOne.feed(88, 99842), 1);
        is("a volt less", longOne.feed(88, 99841), -1);
        is("within the most voltage", longOne.feed(88, 99999), 1);
        is("beyond the most voltage", longOne.feed(89, 99999), -1);
        is("far beyond", longOne.feed(99, 99999), -1);
    }

    private static void deadOfOneAtMost() {
        TubeShop none = splitOf(new TubeShop(), 0);
        is("no run: looks", none.dead(0), 0);
        is("no run: first", none.dead(1), -1);
        TubeShop shop = columns(2);
        shop.longest(90);
        splitOf(shop, 2);
        is("two: looks", shop.dead(0), 180);
        is("two: first", shop.dead(1), 0);
        shop.longest(9999);
        splitOf(shop, 1);
        is("one behind two: looks", shop.dead(0), 0);
        is("one behind two: first", shop.dead(1), -1);
        shop.anew();
        splitOf(shop, 0);
        is("none behind one: looks", shop.dead(0), 0);
        is("none behind one: first", shop.dead(1), -1);
    }

    private static void noSuchDead() {
        TubeShop shop = rowsApart(1, 2);
        is("no split: looks", shop.dead(0), -1);
        is("no split: first", shop.dead(1), -1);
        is("no split: what 2", shop.dead(2), -1);
        splitOf(shop, 2);
        is("what 0", shop.dead(0), 30);
        for (int what : new int[] {-1, 2, 3, -2, 256, Integer.MIN_VALUE, Integer.MAX_VALUE}) {
            is("what " + what, shop.dead(what), -1);
        }
        is("what 1", shop.dead(1), 0);
        shop.anew();
        is("behind anew: looks", shop.dead(0), -1);
        is("behind anew: first", shop.dead(1), -1);
    }

    private static void noSuchLook() {
        TubeShop shop = new TubeShop();
        is("no stroke", look(shop, 0, 0), INDEX);
        is("no stroke, no what", look(shop, 0, 2), INDEX);
        for (int many = 1; many <= 9; many++) {
            shop.stroke(many, 0, many, 9);
            is("the last of " + many, look(shop, many - 1, 0), 90);
            is("its direction", look(shop, many - 1, 1), 2);
            is("behind the last of " + many, look(shop, many, 0), INDEX);
            is("ahead of the first of " + many, look(shop, -1, 1), INDEX);
            is("what 2 of " + many, look(shop, many - 1, 2), ELEMENT);
            is("what -1 of " + many, look(shop, 0, -1), ELEMENT);
            is("behind the last and what 2", look(shop, many, 2), INDEX);
        }
        for (int far : FAR) {
            is("stroke " + far, look(shop, far, 0), INDEX);
            is("what " + far, look(shop, 8, far), ELEMENT);
            is("stroke and what " + far, look(shop, far, far), INDEX);
        }
        is("nothing is changed", shop.count(2), 810);
        shop.anew();
        is("behind anew", look(shop, 0, 0), INDEX);
    }

    private static void countOfRuns() {
        TubeShop shop = columns(9);
        is("without one", shop.count(1), -1);
        for (int most = 90; most <= 890; most += 100) {
            shop.longest(most);
            int runs = (9 * 100 + most + 9) / (most + 10);
            is("runs under " + most, shop.split(), runs);
            is("runs counted under " + most, shop.count(1), runs);
        }
        shop.anew();
        is("behind anew", shop.count(1), -1);
        splitOf(shop, 0);
        is("of the empty one", shop.count(1), 0);
    }

    private static void countOfLength() {
        TubeShop shop = new TubeShop();
        is("of none", shop.count(2), 0);
        for (int k = 1; k <= 9; k++) {
            shop.stroke(9, 9, 0, 0);
            is("of " + k, shop.count(2), 126 * k);
        }
        shop.stroke(0, 0, 1, 0);
        is("of nine, without the tenth", shop.count(2), 1134);
        splitOf(shop, 1);
        is("jumps' pieces do not count", shop.count(2), 1134);
        shop.anew();
        is("behind anew", shop.count(2), 0);
    }

    private static void countOfPrice() {
        TubeShop shop = shopOf(0, 0, 1, 1, 3, 3, 4, 4);
        is("without one", shop.count(3), -1);
        shop.longest(14);
        splitOf(shop, 2);
        is("each run cut by itself", shop.count(3), 1 + 1);
        shop.price(6, 0);
        is("as it was then", shop.count(3), 2);
        splitOf(shop, 2);
        is("a split for nothing", shop.count(3), 0);
        shop.longest(13);
        splitOf(shop, -1);
        is("the one at hand stays", shop.count(3), 0);
        shop.anew();
        is("behind anew", shop.count(3), -1);
        splitOf(shop, 0);
        is("of the empty one", shop.count(3), 0);
        TubeShop nine = nineDiagonals();
        nine.price(6, 99);
        nine.longest(126);
        splitOf(nine, 9);
        is("nine times 1247.4", nine.count(3), 9 * 1247);
    }

    private static void noSuchCount() {
        TubeShop shop = splitOf(columns(2), 1);
        int[] told = {2, 1, 180, 5 + 19, 9999};
        for (int what = 0; what <= 4; what++) {
            is("what " + what, shop.count(what), told[what]);
        }
        for (int what : new int[] {-1, 5, 6, -5, 256, Integer.MIN_VALUE, Integer.MAX_VALUE}) {
            is("what " + what, shop.count(what), -1);
            is("what " + what + " of a new one", new TubeShop().count(what), -1);
        }
    }
}
