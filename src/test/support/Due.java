import java.util.NoSuchElementException;

/**
 * What the tests share: comparing answers, and calls whose exceptions count as answers. A test
 * extends it, since a class without a package has no other way to call these by their short names.
 */
abstract class Due {
    static final int INDEX = -1000001;
    static final int ELEMENT = -1000002;
    /** Numbers far away from all that the document allows, and its nearest neighbours. */
    static final int[] FAR = {
        Integer.MIN_VALUE, Integer.MIN_VALUE + 1, -65536, -2, -1, 10, 32, 512, 1 << 16, 1 << 30,
        Integer.MAX_VALUE - 1, Integer.MAX_VALUE,
    };

    private static final int MOST_PRINTED = 60;
    private static int compared = 0;
    private static int wrong = 0;

    static void due(String what, int got, int want) {
        compared++;
        if (got != want) {
            tell(what + ": answered " + got + ", due is " + want);
        }
    }

    static void due(String what, boolean got, boolean want) {
        due(what, got ? 1 : 0, want ? 1 : 0);
    }

    static void due(String what, String got, String want) {
        compared++;
        if (!got.equals(want)) {
            tell(what + ": answered " + got + ", due is " + want);
        }
    }

    private static void tell(String text) {
        wrong++;
        if (wrong <= MOST_PRINTED) {
            System.out.println(text);
        }
    }

    static int compared() {
        return compared;
    }

    /** The last call of a test's main. */
    static void end() {
        System.out.println(wrong == 0 ? compared + " answers are as due"
            : wrong + " of " + compared + " answers are not as due");
        if (wrong != 0) {
            System.exit(1);
        }
    }

    static int part(TubeShop shop, int k, int what) {
        try {
            return shop.part(k, what);
        } catch (IndexOutOfBoundsException e) {
            return ownIndex(e);
        } catch (NoSuchElementException e) {
            return ELEMENT;
        }
    }

    static int look(TubeShop shop, int stroke, int what) {
        try {
            return shop.look(stroke, what);
        } catch (IndexOutOfBoundsException e) {
            return ownIndex(e);
        } catch (NoSuchElementException e) {
            return ELEMENT;
        }
    }

    /** The machine's own exceptions are classes below the document's one: they do not count. */
    private static int ownIndex(IndexOutOfBoundsException e) {
        return e.getClass() == IndexOutOfBoundsException.class ? INDEX : INDEX - 10;
    }

    /** A shop with these strokes, four numbers each. */
    static TubeShop shopOf(int... points) {
        TubeShop shop = new TubeShop();
        for (int k = 0; k + 3 < points.length; k += 4) {
            int number = shop.stroke(points[k], points[k + 1], points[k + 2], points[k + 3]);
            due("3: number", number, k / 4);
        }
        return shop;
    }

    /** The steps of the best run over a set, and that there is none behind the last. */
    static void dueSteps(String what, TubeShop shop, int set, int... steps) {
        for (int k = 0; k < steps.length; k++) {
            due(what + ", step " + k, shop.step(set, k), steps[k]);
        }
        due(what + ", behind the last", shop.step(set, steps.length), -1);
    }
}
