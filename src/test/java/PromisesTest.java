/** Each promise by hand: ordinary inputs, the edges that the document names, wrong inputs. */
public final class PromisesTest extends Due {
    public static void main(String[] args) {
        newObject();
        anew();
        strokesThatAre();
        strokesThatAreNot();
        strokesAtMostNine();
        firstPricesOfBends();
        otherPricesOfBends();
        priceOfJump();
        priceOfLength();
        pricesThatAreNot();
        longest();
        runPayBeforeLength();
        runLengthBeforeRow();
        runThatIsNot();
        runAfterMoreStrokes();
        stepsFirstOfSeveral();
        stepsThatAreNot();
        splitFewest();
        splitCheapestOfFewest();
        splitFirstOfCheapest();
        splitHoldsBestRunsAlone();
        splitThatIsNot();
        partAsItWasThen();
        partThatIsNot();
        feedFewest();
        feedNotByTheNextThatFits();
        feedEdges();
        deadLooks();
        deadFirstIsLeast();
        deadEdges();
        lookDirections();
        lookThatIsNot();
        counts();
        nothingElseIsThrown();
        end();
    }

    // promise 1

    private static void newObject() {
        TubeShop shop = new TubeShop();
        due("1: no strokes", shop.count(0), 0);
        due("1: no split", shop.count(1), -1);
        due("1: no length", shop.count(2), 0);
        due("1: no price of a split", shop.count(3), -1);
        due("1: longest", shop.count(4), 9999);
        due("1: no feed", shop.feed(1, 1000), -1);
        due("1: no looks", shop.dead(0), -1);
        due("1: no first", shop.dead(1), -1);
        due("1: no part", part(shop, 0, 0), INDEX);
        due("1: no stroke", look(shop, 0, 0), INDEX);
        due("1: no run", shop.run(1, 0), -1);
        due("1: no step", shop.step(1, 0), -1);
        TubeShop other = shopOf(0, 0, 1, 0);
        other.price(5, 70);
        other.longest(10);
        other.split();
        due("1: objects share no strokes", shop.count(0), 0);
        due("1: objects share no split", shop.count(1), -1);
        due("1: objects share no longest", shop.count(4), 9999);
        TubeShop jump = shopOf(0, 0, 1, 0, 5, 0, 6, 0);
        due("1: objects share no prices", jump.run(3, 0), 5);
    }

    // promise 2

    private static void anew() {
        TubeShop shop = shopOf(0, 0, 3, 0, 3, 0, 3, 2);
        shop.price(2, 3);
        shop.longest(60);
        due("2: split", shop.split(), 1);
        shop.anew();
        due("2: no strokes", shop.count(0), 0);
        due("2: no length", shop.count(2), 0);
        due("2: no split", shop.count(1), -1);
        due("2: no price of a split", shop.count(3), -1);
        due("2: no part", part(shop, 0, 0), INDEX);
        due("2: no stroke", look(shop, 0, 0), INDEX);
        due("2: no run", shop.run(1, 0), -1);
        due("2: no feed", shop.feed(0, 1000), -1);
        due("2: no looks", shop.dead(0), -1);
        due("2: longest stays", shop.count(4), 60);
        due("2: numbers from 0 on", shop.stroke(1, 1, 4, 4), 0);
        due("2: second", shop.stroke(4, 4, 3, 5), 1);
        due("2: run of the new sign, by prices that stay", shop.run(3, 0), 3);
        due("2: length of the new sign", shop.run(3, 1), 56);
        due("2: split of the new sign", shop.split(), 1);
        TubeShop full = new TubeShop();
        for (int k = 0; k < 9; k++) {
            full.stroke(k, 0, k, 1);
        }
        full.anew();
        due("2: room for strokes again", full.stroke(0, 0, 0, 9), 0);
    }

    // promise 3

    private static void strokesThatAre() {
        TubeShop shop = new TubeShop();
        due("3: row", shop.stroke(0, 0, 9, 0), 0);
        due("3: column", shop.stroke(9, 9, 9, 0), 1);
        due("3: diagonal", shop.stroke(0, 0, 9, 9), 2);
        due("3: other diagonal", shop.stroke(0, 9, 9, 0), 3);
        due("3: alike", shop.stroke(0, 9, 9, 0), 4);
        due("3: alike but backward", shop.stroke(9, 0, 0, 9), 5);
        due("3: shortest", shop.stroke(5, 5, 5, 4), 6);
        due("3: how many", shop.count(0), 7);
        due("3: all lengths", shop.count(2), 90 + 90 + 4 * 126 + 10);
    }

    private static void strokesThatAreNot() {
        TubeShop shop = new TubeShop();
        due("3: a point alone", shop.stroke(4, 4, 4, 4), -1);
        due("3: a knight's way", shop.stroke(0, 0, 1, 2), -1);
        due("3: a knight's way back", shop.stroke(5, 5, 3, 4), -1);
        due("3: nearly diagonal", shop.stroke(0, 0, 9, 8), -1);
        for (int far : FAR) {
            due("3: x0 " + far, shop.stroke(far, 3, 3, 3), -1);
            due("3: y0 " + far, shop.stroke(3, far, 3, 3), -1);
            due("3: x1 " + far, shop.stroke(3, 3, far, 3), -1);
            due("3: y1 " + far, shop.stroke(3, 3, 3, far), -1);
            due("3: both " + far, shop.stroke(3, 3, far, far), -1);
        }
        due("3: none of them is kept", shop.count(0), 0);
        due("3: none of them is kept by length", shop.count(2), 0);
    }

    private static void strokesAtMostNine() {
        TubeShop shop = new TubeShop();
        for (int k = 0; k < 9; k++) {
            due("3: stroke " + k, shop.stroke(k, k, k + 1, k + 1), k);
        }
        due("3: a tenth", shop.stroke(0, 0, 1, 0), -1);
        due("3: nine stay", shop.count(0), 9);
        due("3: the whole set", shop.run(511, 1), 126);
        due("3: no set beyond", shop.run(512, 1), -1);
    }

    // promise 4

    /** Strokes that end and begin at 5, 5, so that the only cheap way is the bend there. */
    private static TubeShop bendOf(int k) {
        int[] dx = {1, 1, 0, -1, -1};
        int[] dy = {0, 1, 1, 1, 0};
        TubeShop shop = shopOf(3, 5, 5, 5);
        shop.stroke(5, 5, 5 + dx[k], 5 + dy[k]);
        shop.price(5, 99);
        return shop;
    }

    private static void firstPricesOfBends() {
        int[] first = {0, 1, 2, 4, 8};
        for (int k = 0; k < 5; k++) {
            TubeShop shop = bendOf(k);
            due("4: bend " + k + " at first", shop.run(3, 0), first[k]);
            due("4: no jump there", shop.run(3, 3), 0);
        }
        TubeShop other = shopOf(3, 5, 5, 5, 5, 5, 6, 4);
        due("4: the shorter way round", other.run(3, 0), 1);
        TubeShop round = shopOf(0, 0, 1, 0, 1, 0, 2, 0);
        due("4: straight on", round.run(3, 0), 0);
        TubeShop over = shopOf(5, 5, 6, 4, 6, 4, 7, 5);
        due("4: from 7 to 1 are 2", over.run(3, 0), 2);
        TubeShop diamond = shopOf(0, 2, 2, 0, 2, 0, 4, 2, 4, 2, 2, 4, 2, 4, 1, 3);
        due("4: over 0 either way", diamond.run(15, 0), 6);
    }

    private static void otherPricesOfBends() {
        for (int k = 0; k < 5; k++) {
            TubeShop shop = bendOf(k);
            due("4: asked ahead", shop.run(3, 0) < 9 ? 1 : 0, 1);
            due("4: bend " + k, shop.price(k, 40 + k) ? 1 : 0, 1);
            due("4: bend " + k + " then", shop.run(3, 0), 40 + k);
            due("4: bend " + k + " for nothing", shop.price(k, 0) ? 1 : 0, 1);
            due("4: bend " + k + " then for nothing", shop.run(3, 0), 0);
            due("4: bend " + k + " dearest", shop.price(k, 99) ? 1 : 0, 1);
            due("4: bend " + k + " as dear as a jump, but shorter", shop.run(3, 3), 0);
        }
    }

    private static void priceOfJump() {
        TubeShop shop = shopOf(0, 0, 3, 0, 3, 0, 3, 2);
        due("4: a jump is dearer at first", shop.run(3, 3), 0);
        due("4: a jump for 1", shop.price(5, 1) ? 1 : 0, 1);
        due("4: jump pay", shop.run(3, 0), 1);
        due("4: jump count", shop.run(3, 3), 1);
        due("4: jump length", shop.run(3, 1), 70);
        due("4: a jump for 2", shop.price(5, 2) ? 1 : 0, 1);
        due("4: as dear: the shorter one", shop.run(3, 3), 0);
        due("4: as dear: pay", shop.run(3, 0), 2);
    }

    private static void priceOfLength() {
        TubeShop shop = shopOf(0, 0, 1, 1, 1, 1, 2, 1);
        due("4: 1 pay, 24 length", shop.run(3, 2), 1 + 2);
        due("4: 10 length for 7", shop.price(6, 7) ? 1 : 0, 1);
        due("4: 168 by 10, cut once", shop.run(3, 2), 1 + 16);
        due("4: one stroke of 14", shop.run(1, 2), 9);
        due("4: 10 length for nothing", shop.price(6, 0) ? 1 : 0, 1);
        due("4: pay alone", shop.run(3, 2), 1);
        due("4: 10 length for 99", shop.price(6, 99) ? 1 : 0, 1);
        due("4: 2376 by 10, cut", shop.run(3, 2), 1 + 237);
        TubeShop three = shopOf(0, 0, 1, 1, 1, 1, 2, 2, 2, 2, 3, 3);
        due("4: cut once for the run, not for each stroke", three.run(7, 2), 4);
    }

    private static void pricesThatAreNot() {
        TubeShop shop = bendOf(2);
        for (int far : FAR) {
            due("4: no price " + far, shop.price(far, 1) ? 1 : 0, 0);
        }
        due("4: no price 7", shop.price(7, 1) ? 1 : 0, 0);
        for (int what = 0; what < 7; what++) {
            due("4: below for " + what, shop.price(what, -1) ? 1 : 0, 0);
            due("4: beyond for " + what, shop.price(what, 100) ? 1 : 0, 0);
            due("4: far for " + what, shop.price(what, Integer.MAX_VALUE) ? 1 : 0, 0);
            due("4: far below for " + what, shop.price(what, Integer.MIN_VALUE) ? 1 : 0, 0);
        }
        due("4: prices stay", shop.run(3, 0), 2);
        due("4: price of length stays", shop.run(3, 2), 5);
    }

    // promise 5

    private static void longest() {
        TubeShop shop = shopOf(0, 0, 3, 0, 3, 0, 6, 0);
        due("5: 59", shop.longest(59) ? 1 : 0, 1);
        due("5: counted", shop.count(4), 59);
        due("5: too long by one", shop.split(), 2);
        for (int far : new int[] {0, -1, 10000, Integer.MIN_VALUE, Integer.MAX_VALUE}) {
            due("5: can't be " + far, shop.longest(far) ? 1 : 0, 0);
            due("5: stays behind " + far, shop.count(4), 59);
        }
        due("5: 60", shop.longest(60) ? 1 : 0, 1);
        due("5: just as long", shop.split(), 1);
        due("5: least", shop.longest(1) ? 1 : 0, 1);
        due("5: least counted", shop.count(4), 1);
        due("5: most", shop.longest(9999) ? 1 : 0, 1);
        due("5: most counted", shop.count(4), 9999);
        due("5: run does not mind", shop.longest(1) ? shop.run(3, 1) : 0, 60);
    }

    // promise 6

    private static void runPayBeforeLength() {
        TubeShop shop = shopOf(0, 0, 2, 0, 0, 0, 4, 0);
        due("6: the jump pays less than the bend back", shop.run(3, 0), 5);
        due("6: though it is longer", shop.run(3, 1), 80);
        due("6: and dearer in all", shop.run(3, 2), 13);
        due("6: one jump", shop.run(3, 3), 1);
        shop.price(6, 99);
        due("6: whatever length costs", shop.run(3, 1), 80);
        due("6: price then", shop.run(3, 2), 5 + 792);
        TubeShop piece = shopOf(0, 0, 1, 0, 4, 2, 5, 2);
        due("6: a piece 3 along and 2 up", piece.run(3, 1), 10 + (2 * 14 + 10) + 10);
        due("6: its price", piece.run(3, 2), 5 + 5);
    }

    private static void runLengthBeforeRow() {
        TubeShop shop = shopOf(5, 0, 6, 0, 0, 0, 3, 0);
        due("6: pays one jump either way", shop.run(3, 0), 5);
        due("6: over the shorter gap", shop.run(3, 1), 10 + 20 + 30);
        due("6: first step for that", shop.step(3, 0), 1);
        due("6: second step for that", shop.step(3, 1), 3);
    }

    private static void runThatIsNot() {
        TubeShop shop = shopOf(0, 0, 1, 0, 1, 0, 2, 0);
        due("6: one stroke", shop.run(2, 1), 10);
        due("6: one stroke pays nothing", shop.run(2, 0), 0);
        due("6: one stroke has no jump", shop.run(2, 3), 0);
        due("6: the empty set", shop.run(0, 0), -1);
        due("6: a stroke that is not there", shop.run(4, 0), -1);
        due("6: with a stroke that is not there", shop.run(5, 0), -1);
        for (int far : FAR) {
            due("6: set " + far, shop.run(far, 0), -1);
            due("6: what " + far, shop.run(3, far), -1);
        }
        due("6: what 4", shop.run(3, 4), -1);
    }

    private static void runAfterMoreStrokes() {
        TubeShop shop = shopOf(0, 0, 1, 0, 3, 0, 4, 0);
        due("6: a jump so far", shop.run(3, 0), 5);
        due("6: a third one", shop.stroke(1, 0, 3, 0), 2);
        due("6: closes the gap", shop.run(7, 0), 0);
        due("6: without it as before", shop.run(3, 1), 40);
        shop.price(5, 9);
        due("6: dearer jump", shop.run(3, 0), 9);
        shop.anew();
        shop.stroke(0, 0, 0, 5);
        shop.stroke(0, 5, 5, 5);
        due("6: another sign", shop.run(3, 0), 2);
        due("6: of another length", shop.run(3, 1), 100);
    }

    // promise 7

    private static void stepsFirstOfSeveral() {
        TubeShop square = shopOf(0, 0, 2, 0, 2, 0, 2, 2, 2, 2, 0, 2, 0, 2, 0, 0);
        dueSteps("7: a square", square, 15, 0, 2, 4, 6);
        dueSteps("7: three sides", square, 14, 2, 4, 6);
        dueSteps("7: two sides and a jump", square, 5, 0, 4);
        TubeShop alike = shopOf(0, 0, 1, 0, 0, 0, 1, 0, 0, 0, 1, 0);
        alike.price(4, 1);
        dueSteps("7: alike, to and fro", alike, 7, 0, 3, 4);
        dueSteps("7: one alone goes forward", alike, 4, 4);
        TubeShop back = shopOf(3, 0, 0, 0, 3, 0, 6, 0);
        dueSteps("7: backward first", back, 3, 1, 2);
        TubeShop order = shopOf(2, 0, 3, 0, 1, 0, 2, 0, 0, 0, 1, 0);
        dueSteps("7: the row of the least first step", order, 7, 1, 3, 5);
    }

    private static void stepsThatAreNot() {
        TubeShop shop = shopOf(0, 0, 1, 0, 1, 0, 2, 0, 2, 0, 3, 0);
        due("7: last", shop.step(7, 2), 4);
        due("7: behind the last", shop.step(7, 3), -1);
        due("7: of two", shop.step(5, 2), -1);
        due("7: of one", shop.step(4, 1), -1);
        due("7: the empty set", shop.step(0, 0), -1);
        due("7: no such set", shop.step(8, 0), -1);
        for (int far : FAR) {
            due("7: set " + far, shop.step(far, 0), -1);
            due("7: k " + far, shop.step(7, far), -1);
        }
    }

    // promise 8

    private static void splitFewest() {
        due("8: without strokes", new TubeShop().split(), 0);
        TubeShop shop = shopOf(0, 0, 4, 0, 4, 0, 4, 3, 4, 3, 0, 3, 0, 3, 0, 0);
        due("8: all in one", shop.split(), 1);
        shop.longest(139);
        due("8: two", shop.split(), 2);
        shop.longest(69);
        due("8: four", shop.split(), 4);
        TubeShop dear = shopOf(0, 0, 1, 0, 9, 9, 8, 9);
        due("8: one with a dear jump is fewer than two cheap ones", dear.split(), 1);
        due("8: it is dear", dear.count(3), 5 + 13);
    }

    private static void splitCheapestOfFewest() {
        TubeShop shop = shopOf(0, 0, 3, 0, 0, 1, 3, 1, 3, 0, 6, 0);
        shop.longest(70);
        due("8: two runs", shop.split(), 2);
        due("8: the straight one is cheaper than the set that comes ahead", part(shop, 0, 0), 5);
        due("8: and the rest", part(shop, 1, 0), 2);
        due("8: least sum", shop.count(3), 9);
        shop.price(5, 0);
        shop.price(6, 0);
        shop.price(0, 1);
        due("8: two runs again", shop.split(), 2);
        due("8: jumps for nothing turn it round", part(shop, 0, 0), 1);
        due("8: in its rest too", part(shop, 1, 0), 6);
        due("8: then for nothing", shop.count(3), 0);
    }

    private static void splitFirstOfCheapest() {
        TubeShop shop = shopOf(0, 0, 1, 0, 1, 0, 2, 0, 2, 0, 3, 0, 3, 0, 4, 0);
        shop.longest(30);
        due("8: two of several", shop.split(), 2);
        due("8: the least set that has stroke 0", part(shop, 0, 0), 1);
        due("8: then the rest", part(shop, 1, 0), 14);
        shop.longest(20);
        due("8: two of two", shop.split(), 2);
        due("8: the first pair", part(shop, 0, 0), 3);
        due("8: the second pair", part(shop, 1, 0), 12);
        TubeShop square = shopOf(0, 0, 2, 0, 2, 0, 2, 2, 2, 2, 0, 2, 0, 2, 0, 0);
        square.longest(40);
        due("8: two corners of four", square.split(), 2);
        due("8: stroke 0 with stroke 1, not 3", part(square, 0, 0), 3);
        due("8: and the other corner", part(square, 1, 0), 12);
        shop.longest(10);
        due("8: four", shop.split(), 4);
        for (int k = 0; k < 4; k++) {
            due("8: stroke by stroke " + k, part(shop, k, 0), 1 << k);
        }
    }

    private static void splitHoldsBestRunsAlone() {
        TubeShop shop = shopOf(0, 0, 2, 0, 0, 0, 4, 0);
        shop.longest(79);
        due("8: the bend back would be 60, but it is not the best run", shop.split(), 2);
        shop.price(4, 5);
        due("8: now it is", shop.split(), 1);
        due("8: its length", part(shop, 0, 1), 60);
    }

    private static void splitThatIsNot() {
        TubeShop shop = shopOf(0, 0, 3, 0, 0, 1, 5, 1);
        shop.longest(49);
        due("8: a stroke alone is too long", shop.split(), -1);
        due("8: there is still none", shop.count(1), -1);
        due("8: no part", part(shop, 0, 0), INDEX);
        shop.longest(50);
        due("8: two", shop.split(), 2);
        shop.longest(29);
        due("8: none again", shop.split(), -1);
        due("8: the one at hand stays", shop.count(1), 2);
        due("8: with its price", shop.count(3), 8);
        due("8: and its sets", part(shop, 1, 0), 2);
        due("8: and its feed", shop.feed(1, 180), 1);
        due("8: and its looks", shop.dead(0), 80);
    }

    // promise 9

    private static void partAsItWasThen() {
        TubeShop shop = shopOf(0, 0, 3, 0, 3, 0, 3, 2);
        due("9: split", shop.split(), 1);
        shop.price(2, 50);
        shop.price(6, 9);
        shop.longest(10);
        shop.stroke(5, 5, 6, 6);
        due("9: the best run now is another one", shop.run(3, 1), 70);
        due("9: set", part(shop, 0, 0), 3);
        due("9: length", part(shop, 0, 1), 50);
        due("9: price", part(shop, 0, 2), 7);
        due("9: count", shop.count(1), 1);
        due("9: price of all", shop.count(3), 7);
        due("9: feed", shop.feed(1, 100), 1);
        shop.longest(9999);
        due("9: anew", shop.split(), 1);
        due("9: set then", part(shop, 0, 0), 7);
        due("9: pay then", shop.run(7, 0), 10);
    }

    private static void partThatIsNot() {
        TubeShop shop = shopOf(0, 0, 3, 0, 0, 2, 3, 2);
        due("9: no split yet", part(shop, 0, 0), INDEX);
        due("9: no split and no what", part(shop, 0, 3), INDEX);
        shop.longest(30);
        due("9: split", shop.split(), 2);
        due("9: last", part(shop, 1, 0), 2);
        due("9: behind the last", part(shop, 2, 0), INDEX);
        for (int far : FAR) {
            due("9: run " + far, part(shop, far, 0), INDEX);
            due("9: what " + far, part(shop, 1, far), ELEMENT);
            due("9: run and what " + far, part(shop, far, far), INDEX);
        }
        due("9: what 3", part(shop, 0, 3), ELEMENT);
        shop.longest(9999);
        due("9: fewer now", shop.split(), 1);
        due("9: none is left over", part(shop, 1, 0), INDEX);
        TubeShop empty = new TubeShop();
        empty.split();
        due("9: empty split", part(empty, 0, 0), INDEX);
    }

    // promise 10

    /** Strokes that lie apart, so that each is a run of its own under LONGEST 90. */
    private static TubeShop apart(int... lengths) {
        TubeShop shop = new TubeShop();
        for (int k = 0; k < lengths.length; k++) {
            shop.stroke(0, k, lengths[k] / 10, k);
        }
        int most = 0;
        for (int length : lengths) {
            most = Math.max(most, length);
        }
        shop.longest(most);
        shop.price(5, 99);
        return shop;
    }

    private static void feedFewest() {
        TubeShop shop = apart(90, 90, 90, 90);
        due("10: four runs", shop.split(), 4);
        due("10: each alone", shop.feed(1, 140), 4);
        due("10: one too few for two", shop.feed(1, 279), 4);
        due("10: two and two", shop.feed(1, 280), 2);
        due("10: three and one", shop.feed(1, 420), 2);
        due("10: all", shop.feed(1, 560), 1);
        due("10: by rate 0", shop.feed(0, 100), 2);
        due("10: by rate 99", shop.feed(99, 99999), 1);
        due("10: by rate 99, tight", shop.feed(99, 8960), 4);
    }

    private static void feedNotByTheNextThatFits() {
        TubeShop shop = shopOf(0, 0, 3, 0, 0, 3, 2, 3, 5, 3, 7, 3,
            0, 6, 1, 6, 4, 6, 5, 6, 8, 6, 9, 6);
        shop.longest(30);
        due("10: six runs", shop.split(), 6);
        due("10: 200 and 100 and 100, 150 and 150 and 100", shop.feed(5, 400), 2);
        due("10: not so with one less", shop.feed(5, 399), 3);
    }

    private static void feedEdges() {
        TubeShop none = apart(90);
        due("10: no split", none.feed(1, 1000), -1);
        TubeShop empty = new TubeShop();
        empty.split();
        due("10: no runs, no boxes", empty.feed(1, 1), 0);
        due("10: no runs, but a wrong rate", empty.feed(-1, 1), -1);
        due("10: no runs, but a wrong voltage", empty.feed(1, 0), -1);
        due("10: no runs, but too much voltage", empty.feed(1, 100000), -1);
        TubeShop shop = apart(90, 90);
        due("10: two", shop.split(), 2);
        due("10: just enough", shop.feed(1, 140), 2);
        due("10: one too few", shop.feed(1, 139), -1);
        due("10: rate 0", shop.feed(0, 50), 2);
        due("10: rate 0, too few", shop.feed(0, 49), -1);
        due("10: rate -1", shop.feed(-1, 1000), -1);
        due("10: rate 100", shop.feed(100, 99999), -1);
        due("10: rate 99", shop.feed(99, 99999), 1);
        due("10: voltage 0", shop.feed(0, 0), -1);
        due("10: voltage 1", shop.feed(0, 1), -1);
        due("10: voltage 100000", shop.feed(1, 100000), -1);
        for (int far : FAR) {
            due("10: voltage " + far, far > 99999 || far < 1 ? shop.feed(1, far) : -1, -1);
            due("10: rate " + far, far > 99 || far < 0 ? shop.feed(far, 99999) : -1, -1);
        }
    }

    // promise 11

    private static void deadLooks() {
        TubeShop shop = shopOf(0, 0, 1, 0, 5, 5, 7, 5, 0, 9, 3, 9);
        shop.longest(30);
        due("11: three runs", shop.split(), 3);
        due("11: 10, 20, 30", shop.dead(0), 90);
        due("11: behind the second", shop.dead(1), 1);
        TubeShop turned = shopOf(0, 0, 3, 0, 5, 5, 7, 5, 0, 9, 1, 9);
        turned.longest(30);
        due("11: three runs turned", turned.split(), 3);
        due("11: 30, 20, 10", turned.dead(0), 90);
        due("11: behind the first", turned.dead(1), 0);
        TubeShop middle = shopOf(0, 0, 1, 0, 0, 4, 9, 4, 9, 9, 8, 9);
        middle.longest(90);
        due("11: a long one between short ones", middle.split(), 3);
        due("11: the runs keep their row: 10, 90, 10", middle.dead(0), 10 + 180 + 20);
        due("11: either joint can begin", middle.dead(1), 0);
        TubeShop row = shopOf(0, 0, 1, 0, 0, 3, 9, 3, 0, 6, 1, 6, 0, 9, 1, 9);
        row.longest(29);
        due("11: a stroke is too long", row.split(), -1);
        due("11: no split yet", row.dead(0), -1);
    }

    private static void deadFirstIsLeast() {
        TubeShop same = new TubeShop();
        for (int k = 0; k < 3; k++) {
            same.stroke(0, 4 * k, 9, 4 * k);
        }
        same.longest(90);
        due("11: three alike", same.split(), 3);
        due("11: looks for three alike", same.dead(0), 90 + 180 + 180);
        due("11: either joint can begin: the least", same.dead(1), 0);
        TubeShop nine = new TubeShop();
        for (int k = 0; k < 9; k++) {
            nine.stroke(k, 0, k, 9);
        }
        nine.longest(90);
        due("11: nine alike", nine.split(), 9);
        due("11: looks for nine alike", nine.dead(0), 2610);
        due("11: four ahead, five behind", nine.dead(1), 3);
    }

    private static void deadEdges() {
        TubeShop shop = new TubeShop();
        due("11: no split", shop.dead(0), -1);
        shop.split();
        due("11: no runs", shop.dead(0), 0);
        due("11: no runs, no joint", shop.dead(1), -1);
        shop.stroke(0, 0, 9, 9);
        due("11: still the empty split", shop.dead(0), 0);
        shop.split();
        due("11: one run", shop.dead(0), 0);
        due("11: one run, no joint", shop.dead(1), -1);
        TubeShop two = apart(90, 90);
        two.split();
        due("11: two runs", two.dead(0), 180);
        due("11: two runs, one joint", two.dead(1), 0);
        for (int far : FAR) {
            due("11: what " + far, two.dead(far), -1);
        }
        due("11: what 2", two.dead(2), -1);
        two.price(6, 50);
        two.stroke(0, 9, 9, 9);
        due("11: as it was then", two.dead(0), 180);
        two.anew();
        due("11: none behind anew", two.dead(0), -1);
    }

    // promise 12

    private static void lookDirections() {
        int[] dx = {1, 1, 0, -1, -1, -1, 0, 1};
        int[] dy = {0, 1, 1, 1, 0, -1, -1, -1};
        TubeShop shop = new TubeShop();
        for (int d = 0; d < 8; d++) {
            int far = d % 4 + 1;
            due("12: stroke " + d, shop.stroke(5, 5, 5 + far * dx[d], 5 + far * dy[d]), d);
        }
        for (int d = 0; d < 8; d++) {
            int far = d % 4 + 1;
            due("12: direction " + d, look(shop, d, 1), d);
            due("12: length " + d, look(shop, d, 0), far * (d % 2 == 0 ? 10 : 14));
        }
        TubeShop longOnes = shopOf(0, 0, 9, 9, 9, 0, 0, 0);
        due("12: longest diagonal", look(longOnes, 0, 0), 126);
        due("12: longest row", look(longOnes, 1, 0), 90);
    }

    private static void lookThatIsNot() {
        TubeShop shop = shopOf(0, 0, 1, 0, 1, 0, 2, 0);
        due("12: last", look(shop, 1, 0), 10);
        due("12: behind the last", look(shop, 2, 0), INDEX);
        due("12: what 2", look(shop, 1, 2), ELEMENT);
        for (int far : FAR) {
            due("12: stroke " + far, look(shop, far, 0), INDEX);
            due("12: what " + far, look(shop, 0, far), ELEMENT);
            due("12: stroke and what " + far, look(shop, far, far), INDEX);
        }
        TubeShop nine = new TubeShop();
        for (int k = 0; k < 9; k++) {
            nine.stroke(k, 0, k, 9);
        }
        due("12: the ninth", look(nine, 8, 0), 90);
        due("12: no tenth", look(nine, 9, 0), INDEX);
    }

    // promise 13

    private static void counts() {
        TubeShop shop = shopOf(0, 0, 3, 0, 0, 2, 2, 4, 9, 9, 9, 8);
        due("13: strokes", shop.count(0), 3);
        due("13: no runs", shop.count(1), -1);
        due("13: length of all", shop.count(2), 30 + 28 + 10);
        due("13: no price", shop.count(3), -1);
        due("13: longest", shop.count(4), 9999);
        shop.longest(30);
        due("13: split", shop.split(), 3);
        due("13: runs", shop.count(1), 3);
        due("13: each cut by itself", shop.count(3), 3 + 2 + 1);
        due("13: longest now", shop.count(4), 30);
        due("13: what 5", shop.count(5), -1);
        for (int far : FAR) {
            due("13: what " + far, shop.count(far), -1);
        }
        TubeShop empty = new TubeShop();
        empty.split();
        due("13: an empty split has no runs", empty.count(1), 0);
        due("13: an empty split costs nothing", empty.count(3), 0);
    }

    // LANGUAGE.md, rule 6: nothing but what the document says reaches the caller

    private static void nothingElseIsThrown() {
        for (int strokes = 0; strokes <= 9; strokes++) {
            TubeShop shop = new TubeShop();
            for (int k = 0; k < strokes; k++) {
                shop.stroke(k, k, k, 9 - k == k ? 0 : 9 - k);
            }
            if (strokes % 2 == 1) {
                shop.longest(90);
                shop.split();
            }
            callWithAll(shop);
        }
    }

    private static void callWithAll(TubeShop shop) {
        int before = shop.count(0);
        for (int a : FAR) {
            for (int b : new int[] {Integer.MIN_VALUE, -1, 0, Integer.MAX_VALUE}) {
                try {
                    shop.run(a, b);
                    shop.step(a, b);
                    shop.feed(a, b);
                    look(shop, a, b);
                    part(shop, a, b);
                } catch (RuntimeException e) {
                    due("thrown by " + a + ", " + b + ": " + e, 1, 0);
                }
            }
        }
        due("nothing changed", shop.count(0), before);
    }
}
