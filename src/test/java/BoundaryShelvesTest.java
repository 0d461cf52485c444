/** The boundary cases that the document names for acts and shelves (promises 26 to 35). */
public final class BoundaryShelvesTest extends TestBase {
    private static final long NONE = Long.MIN_VALUE;

    public static void main(String[] args) {
        kindOfABody();
        fiftyBodies();
        whichBodyActs();
        whichAct();
        actsThatWrap();
        noTraceThen();
        whichOfTheTrace();
        firstTwentyFour();
        latestAct();
        shelfToKeep();
        bodyToKeep();
        shelfOfARow();
        sortOfARow();
        sizeOfARow();
        badRowAheadOfSize();
        zeroAtFirst();
        shelfToPut();
        placeToPut();
        lowestBits();
        wholeOrNot();
        refusedPuts();
        elementsThatAreNot();
        leastLong();
        placesToShift();
        noneToShift();
        greatPlacesToShift();
        asTheyAllWere();
        allSixty();
        shelvesToShift();
        refusedShifts();
        kindTaken();
        shelfTaken();
        underIt();
        nothingOrARowTaken();
        whatToCount();
        countsAtTheirBounds();
        C.finish();
    }

    private static WhoPrompts withAllKinds() {
        WhoPrompts x = new WhoPrompts();
        for (int kind = 0; kind < 8; kind++) {
            x.body(kind);
        }
        return x;
    }

    // ---- promise 26

    private static void kindOfABody() {
        says(26, "A BODY of a KIND (0 .. 7) is kept: its number. BAD, FULL.");
        WhoPrompts x = new WhoPrompts();
        due("KIND 0", x.body(0), 0);
        due("KIND 7", x.body(7), 1);
        for (int kind : new int[] {-1, 8, HIGH, LOW}) {
            due("KIND " + kind, x.body(kind), -1);
        }
        due("two are there", x.count(3), 2);
    }

    private static void fiftyBodies() {
        says(26, "BODIES 0 .. 49 are kept by call");
        WhoPrompts x = new WhoPrompts();
        for (int k = 0; k < 48; k++) {
            due("body " + k, x.body(k % 8), k);
        }
        due("the 49th", x.body(6), 48);
        due("the 50th", x.body(7), 49);
        due("the 51st", x.body(0), -3);
        due("BAD ahead of FULL, 8", x.body(8), -1);
        due("BAD ahead of FULL, -1", x.body(-1), -1);
        due("50 are there", x.count(3), 50);
        x.keep(0, 49);
        due("the last is of its KIND", x.taken(0, 7), 7);
        due("no BODY 50", x.keep(0, 50), -1);
        due("the first acts", x.act(0, 0, 1), 1);
        due("the last acts", x.act(49, 0, 1), (1 + 49) * 2 - 1);
    }

    // ---- promise 27

    private static void whichBodyActs() {
        says(27, "An ACT (0 .. 3) of a BODY with x. 0, and no TRACE then: no such BODY, ACT.");
        WhoPrompts x = new WhoPrompts();
        due("there is none", x.act(0, 0, 5), 0);
        due("no TRACE", x.count(4), 0);
        x.body(0);
        x.body(0);
        due("BODY 0", x.act(0, 0, 5), 5);
        due("BODY 1", x.act(1, 0, 5), 6);
        for (int body : new int[] {-1, 2, 49, 50, HIGH, LOW}) {
            x.act(1, 3, 5);
            due("BODY " + body, x.act(body, 0, 5), 0);
            due("no TRACE then", x.count(4), 0);
        }
    }

    private static void whichAct() {
        says(27, "ACTS with x (an int that wraps): 0 cues, 1 holds, 2 jumps, 3 prompts");
        WhoPrompts x = withAllKinds();
        due("ACT 0", x.act(1, 0, 5), 5 + 1 + 3);
        due("ACT 3", x.act(1, 3, 5), 2 * 9 - (1 ^ 1));
        for (int act : new int[] {-1, 4, HIGH, LOW}) {
            x.act(1, 3, 5);
            due("ACT " + act, x.act(1, act, 5), 0);
            due("no TRACE then", x.count(4), 0);
            due("none at all", x.trace(0), -1);
        }
    }

    /** By real classes that inherit from one another, with numbers that wrap. */
    private static void actsThatWrap() {
        says(27, "(an int that wraps)");
        int[] given = {0, 1, -1, HIGH, HIGH - 1, HIGH - 49, LOW, LOW + 1, LOW + 49, 1 << 30, -(1 << 30), HIGH / 2 + 1};
        for (int kind = 0; kind < 8; kind++) {
            WhoPrompts x = new WhoPrompts();
            PlainModel plain = new PlainModel();
            for (int k = 0; k < 50; k++) {
                x.body(kind);
                plain.body(kind);
            }
            for (int act = 0; act < 4; act++) {
                for (int v : given) {
                    for (int body : new int[] {0, 1, 49}) {
                        due("KIND " + kind + ": act(" + body + ", " + act + ", " + v + ")",
                            x.act(body, act, v), plain.act(body, act, v));
                    }
                }
            }
        }
        WhoPrompts x = withAllKinds();
        due("cues of MAX by RIGHT", x.act(1, 0, HIGH), LOW + 3);
        due("holds of TURN, twice 2 to the 30", x.act(0, 1, 1 << 30), LOW);
        due("holds of DRIED: less the least int", x.act(2, 1, (1 << 30) - 2), LOW);
    }

    private static void noTraceThen() {
        says(27, "0, and no TRACE then");
        WhoPrompts x = withAllKinds();
        x.act(5, 3, 1);
        due("ten ran", x.count(4), 10);
        due("no such BODY", x.act(8, 3, 1), 0);
        for (int k = -1; k <= 24; k++) {
            due("trace(" + k + ")", x.trace(k), -1);
        }
        due("count(4)", x.count(4), 0);
    }

    // ---- promise 28

    private static void whichOfTheTrace() {
        says(28, "THE TRACE's i-th body. BAD.");
        WhoPrompts x = withAllKinds();
        due("none at first", x.trace(0), -1);
        x.act(0, 0, 1);
        due("the one", x.trace(0), 1);
        due("no second", x.trace(1), -1);
        x.act(5, 3, 1);
        due("the first of ten", x.trace(0), 61);
        due("the last of ten", x.trace(9), 1);
        for (int i : new int[] {-1, 10, 23, 24, 25, HIGH, LOW}) {
            due("trace(" + i + ")", x.trace(i), -1);
        }
    }

    /** No ACT runs more than ten, so that all of each are kept. */
    private static void firstTwentyFour() {
        says(28, "numbers of the bodies that ran in the latest act(), as they began; the first 24 are kept");
        WhoPrompts x = withAllKinds();
        PlainModel plain = new PlainModel();
        int most = 0;
        for (int kind = 0; kind < 8; kind++) {
            plain.body(kind);
        }
        for (int kind = 0; kind < 8; kind++) {
            for (int act = 0; act < 4; act++) {
                x.act(kind, act, 3);
                plain.act(kind, act, 3);
                most = Math.max(most, x.count(4));
                for (int k = 0; k <= x.count(4); k++) {
                    due("KIND " + kind + ", ACT " + act + ", " + k, x.trace(k), plain.trace(k));
                }
            }
        }
        due("most that run in one", most, 10);
    }

    private static void latestAct() {
        says(28, "that ran in the latest act()");
        WhoPrompts x = withAllKinds();
        x.act(5, 3, 1);
        x.act(0, 2, 1);
        due("a shorter one behind a longer", x.trace(0), 11);
        due("nothing is left of that", x.trace(1), -1);
        due("one ran", x.count(4), 1);
        x.body(0);
        x.keep(0, 0);
        due("others leave it", x.trace(0), 11);
    }

    // ---- promise 29

    private static void shelfToKeep() {
        says(29, "A SHELF holds nothing (body -1), or a BODY: 1. BAD.");
        WhoPrompts x = withAllKinds();
        due("SHELF 0", x.keep(0, 7), 1);
        due("SHELF 5", x.keep(5, 6), 1);
        for (int shelf : new int[] {-1, 6, HIGH, LOW}) {
            due("SHELF " + shelf, x.keep(shelf, 0), -1);
            due("SHELF " + shelf + ", nothing", x.keep(shelf, -1), -1);
        }
        due("SHELF 0 holds", x.taken(0, 0), 7);
        due("SHELF 5 holds", x.taken(5, 0), 6);
        due("nothing between", x.taken(1, 0), -11);
    }

    private static void bodyToKeep() {
        says(29, "holds nothing (body -1), or a BODY");
        WhoPrompts x = new WhoPrompts();
        due("no BODY 0", x.keep(0, 0), -1);
        due("nothing", x.keep(0, -1), 1);
        x.body(3);
        x.body(4);
        due("the last BODY", x.keep(0, 1), 1);
        for (int body : new int[] {-2, 2, 49, 50, HIGH, LOW}) {
            due("BODY " + body, x.keep(0, body), -1);
        }
        due("it holds the BODY still", x.taken(0, 0), 4);
        due("the first BODY", x.keep(0, 0), 1);
        due("holds it", x.taken(0, 0), 3);
        due("nothing again", x.keep(0, -1), 1);
        due("holds nothing", x.taken(0, 0), -11);
    }

    // ---- promise 30

    private static void shelfOfARow() {
        says(30, "A SHELF holds a ROW: 1. BAD (sort, n above 60); -14.");
        WhoPrompts x = new WhoPrompts();
        due("SHELF 0", x.row(0, 0, 1), 1);
        due("SHELF 5", x.row(5, 0, 1), 1);
        for (int shelf : new int[] {-1, 6, HIGH, LOW}) {
            due("SHELF " + shelf, x.row(shelf, 0, 1), -1);
        }
        due("SHELF 4 holds nothing", x.put(4, 0, 1), -11);
    }

    private static void sortOfARow() {
        says(30, "or a ROW: of 0 bytes, 1 shorts, 2 ints, 3 longs, 4 booleans");
        WhoPrompts x = new WhoPrompts();
        long[] kept = {-1, -1, -1, -1, 1};
        for (int sort = 0; sort < 5; sort++) {
            due("sort " + sort, x.row(0, sort, 1), 1);
            x.put(0, 0, -1);
            due("keeps of -1", x.element(0, 0), kept[sort]);
        }
        for (int sort : new int[] {-1, 5, HIGH, LOW}) {
            due("sort " + sort, x.row(0, sort, 1), -1);
        }
        due("the booleans are there still", x.element(0, 0), 1);
    }

    private static void sizeOfARow() {
        says(30, "-14 a size below 0");
        WhoPrompts x = new WhoPrompts();
        due("60", x.row(0, 3, 60), 1);
        due("its last place", x.put(0, 59, 8), 1);
        due("no place behind", x.put(0, 60, 8), -13);
        for (int n : new int[] {61, 62, HIGH}) {
            due("n " + n, x.row(0, 3, n), -1);
        }
        for (int n : new int[] {-1, -2, -60, LOW}) {
            due("n " + n, x.row(0, 3, n), -14);
        }
        due("the ROW is there still", x.element(0, 59), 8);
        due("1", x.row(0, 3, 1), 1);
        due("its one place", x.put(0, 0, 8), 1);
        due("no second", x.put(0, 1, 8), -13);
        due("0", x.row(0, 3, 0), 1);
        due("no place", x.put(0, 0, 8), -13);
    }

    private static void badRowAheadOfSize() {
        says(30, "Answers, of several the one named first: BAD (-1)");
        WhoPrompts x = new WhoPrompts();
        due("sort 5, n -1", x.row(0, 5, -1), -1);
        due("sort -1, n -1", x.row(0, -1, -1), -1);
        due("SHELF 6, n -1", x.row(6, 0, -1), -1);
        due("SHELF -1, n MIN", x.row(-1, 0, LOW), -1);
        due("nothing is held", x.put(0, 0, 1), -11);
    }

    private static void zeroAtFirst() {
        says(30, "of 0 .. 60 elements, 0 at first (false)");
        WhoPrompts x = new WhoPrompts();
        for (int sort = 0; sort < 5; sort++) {
            x.row(0, sort, 60);
            due("the first of sort " + sort, x.element(0, 0), 0);
            due("the last of sort " + sort, x.element(0, 59), 0);
            x.put(0, 0, 1);
            x.put(0, 59, 1);
        }
        x.row(0, 4, 60);
        due("a new ROW's first", x.element(0, 0), 0);
        due("a new ROW's last", x.element(0, 59), 0);
        x.put(0, 59, 1);
        x.row(0, 4, 1);
        x.row(0, 4, 60);
        due("behind a shorter one", x.element(0, 59), 0);
    }

    // ---- promises 31 and 32

    private static void shelfToPut() {
        says(31, "Element i of a ROW becomes v: 1. BAD, -11, -12, -13.");
        WhoPrompts x = new WhoPrompts();
        x.row(0, 2, 1);
        x.row(5, 2, 1);
        due("SHELF 0", x.put(0, 0, 7), 1);
        due("SHELF 5", x.put(5, 0, 8), 1);
        due("element of SHELF 0", x.element(0, 0), 7);
        due("element of SHELF 5", x.element(5, 0), 8);
        for (int shelf : new int[] {-1, 6, HIGH, LOW}) {
            due("put to SHELF " + shelf, x.put(shelf, 0, 9), -1);
            due("BAD ahead of -13", x.put(shelf, -1, 9), -1);
        }
    }

    private static void placeToPut() {
        says(31, "-13 a place that is not there");
        for (int size : new int[] {1, 2, 60}) {
            WhoPrompts x = new WhoPrompts();
            x.row(1, 2, size);
            due("the first of " + size, x.put(1, 0, 3), 1);
            due("the last of " + size, x.put(1, size - 1, 4), 1);
            for (int i : new int[] {-1, size, 60, HIGH, LOW}) {
                due("place " + i + " of " + size, x.put(1, i, 5), -13);
                due("element " + i + " of " + size, x.element(1, i), NONE);
            }
            due("the last one's element", x.element(1, size - 1), 4);
        }
        WhoPrompts x = new WhoPrompts();
        x.row(1, 2, 0);
        due("a ROW of none", x.put(1, 0, 5), -13);
        due("element of none", x.element(1, 0), NONE);
    }

    private static void lowestBits() {
        says(31, "what is put in keeps its lowest bits");
        long[][] given = {
            {127, 128, 255, 256, 257, -128, -129, -256, Long.MAX_VALUE, Long.MIN_VALUE},
            {32767, 32768, 65535, 65536, 65537, -32768, -32769, -65536, Long.MAX_VALUE, Long.MIN_VALUE},
            {HIGH, HIGH + 1L, 0xFFFFFFFFL, 1L << 32, (1L << 32) + 1, LOW, LOW - 1L, -(1L << 32), Long.MAX_VALUE,
                Long.MIN_VALUE},
            {Long.MAX_VALUE, Long.MIN_VALUE, -1, 0, 1, HIGH, LOW, 1L << 62, Long.MAX_VALUE - 1, Long.MIN_VALUE + 1}};
        long[][] kept = {
            {127, -128, -1, 0, 1, -128, 127, 0, -1, 0},
            {32767, -32768, -1, 0, 1, -32768, 32767, 0, -1, 0},
            {HIGH, LOW, -1, 0, 1, LOW, HIGH, 0, -1, 0},
            {Long.MAX_VALUE, Long.MIN_VALUE, -1, 0, 1, HIGH, LOW, 1L << 62, Long.MAX_VALUE - 1, Long.MIN_VALUE + 1}};
        WhoPrompts x = new WhoPrompts();
        for (int sort = 0; sort < 4; sort++) {
            x.row(0, sort, 3);
            for (int k = 0; k < given[sort].length; k++) {
                due("put of " + given[sort][k], x.put(0, 1, given[sort][k]), 1);
                due("sort " + sort + " keeps of " + given[sort][k], x.element(0, 1), kept[sort][k]);
            }
            due("the one ahead", x.element(0, 0), 0);
            due("the one behind", x.element(0, 2), 0);
        }
    }

    private static void wholeOrNot() {
        says(31, "(a boolean: whether it is not 0; 1 or 0)");
        WhoPrompts x = new WhoPrompts();
        x.row(0, 4, 1);
        for (long v : new long[] {1, 2, -1, 256, 1L << 16, 1L << 32, 1L << 63, Long.MAX_VALUE}) {
            x.put(0, 0, v);
            due("of " + v, x.element(0, 0), 1);
            x.put(0, 0, 0);
            due("of 0", x.element(0, 0), 0);
        }
    }

    private static void refusedPuts() {
        says(31, "-11 nothing is there where something is wanted; -12 it is of another kind; "
            + "-13 a place that is not there");
        WhoPrompts x = new WhoPrompts();
        due("nothing", x.put(0, 0, 1), -11);
        due("-11 ahead of -13", x.put(0, -1, 1), -11);
        x.body(0);
        x.keep(0, 0);
        due("a BODY", x.put(0, 0, 1), -12);
        due("-12 ahead of -13", x.put(0, 60, 1), -12);
        due("the BODY is there still", x.taken(0, 0), 0);
    }

    private static void elementsThatAreNot() {
        says(32, "Element i of a ROW; Long.MIN_VALUE: BAD, -11 to -13.");
        WhoPrompts x = new WhoPrompts();
        for (int shelf : new int[] {-1, 6, HIGH, LOW}) {
            due("SHELF " + shelf, x.element(shelf, 0), NONE);
        }
        due("nothing", x.element(5, 0), NONE);
        x.body(0);
        x.keep(5, 0);
        due("a BODY", x.element(5, 0), NONE);
        x.row(5, 4, 2);
        due("the last", x.element(5, 1), 0);
        due("behind it", x.element(5, 2), NONE);
        due("ahead of it", x.element(5, -1), NONE);
    }

    private static void leastLong() {
        says(32, "Long.MIN_VALUE");
        WhoPrompts x = new WhoPrompts();
        x.row(0, 3, 2);
        due("put of the least long", x.put(0, 0, Long.MIN_VALUE), 1);
        due("is an element, too", x.element(0, 0), Long.MIN_VALUE);
        due("the one behind", x.element(0, 1), 0);
    }

    // ---- promise 33

    private static WhoPrompts withTwoRows() {
        WhoPrompts x = new WhoPrompts();
        bytes(x, 0, 1, 2, 3, 4, 5);
        bytes(x, 1, 9, 8, 7);
        return x;
    }

    private static void holds(WhoPrompts x, int shelf, int... elements) {
        for (int k = 0; k < elements.length; k++) {
            due("element " + k + " of SHELF " + shelf, x.element(shelf, k), elements[k]);
        }
        due("no more on SHELF " + shelf, x.element(shelf, elements.length), NONE);
    }

    private static void placesToShift() {
        says(33, "-12 (no ROWS, or of unlike sorts), -13.");
        WhoPrompts x = withTwoRows();
        int[][] refused = {{3, 0, 3}, {0, 1, 3}, {0, 0, 4}, {5, 0, 1}, {0, 3, 1}, {-1, 0, 1}, {0, -1, 1}, {0, 0, -1},
            {0, 0, 6}, {6, 0, 0}, {0, 4, 0}, {-1, 0, 0}, {0, -1, 0}, {1, 1, -1}};
        for (int[] p : refused) {
            due("from " + p[0] + " to " + p[1] + ", " + p[2], x.shift(0, p[0], 1, p[1], p[2]), -13);
        }
        holds(x, 1, 9, 8, 7);
        due("the last three", x.shift(0, 2, 1, 0, 3), 3);
        holds(x, 1, 3, 4, 5);
        due("the last one to the last place", x.shift(0, 4, 1, 2, 1), 1);
        holds(x, 1, 3, 4, 5);
        due("the first one to the last place", x.shift(0, 0, 1, 2, 1), 1);
        holds(x, 1, 3, 4, 1);
        holds(x, 0, 1, 2, 3, 4, 5);
    }

    private static void noneToShift() {
        says(33, "n elements of a ROW from i on come to another one (or the same) from j on");
        WhoPrompts x = withTwoRows();
        due("none, at the first", x.shift(0, 0, 1, 0, 0), 0);
        due("none, right behind the last of both", x.shift(0, 5, 1, 3, 0), 0);
        due("none, further behind here", x.shift(0, 6, 1, 3, 0), -13);
        due("none, further behind there", x.shift(0, 5, 1, 4, 0), -13);
        x.row(2, 0, 0);
        due("none of a ROW of none", x.shift(2, 0, 2, 0, 0), 0);
        due("one of a ROW of none", x.shift(2, 0, 0, 0, 1), -13);
        due("one to a ROW of none", x.shift(0, 0, 2, 0, 1), -13);
        holds(x, 0, 1, 2, 3, 4, 5);
        holds(x, 1, 9, 8, 7);
    }

    private static void greatPlacesToShift() {
        says(33, "-13 a place that is not there");
        WhoPrompts x = withTwoRows();
        int[] great = {HIGH, HIGH - 1, LOW, LOW + 1, 1 << 30, -(1 << 30)};
        for (int a : great) {
            due("from " + a, x.shift(0, a, 1, 0, 1), -13);
            due("to " + a, x.shift(0, 0, 1, a, 1), -13);
            due("so many: " + a, x.shift(0, 0, 1, 0, a), -13);
            for (int b : great) {
                due("from " + a + " so many: " + b, x.shift(0, a, 1, 0, b), -13);
                due("to " + a + " so many: " + b, x.shift(0, 1, 1, a, b), -13);
            }
        }
        holds(x, 0, 1, 2, 3, 4, 5);
        holds(x, 1, 9, 8, 7);
    }

    private static void asTheyAllWere() {
        says(33, "(or the same) from j on, as they all were before: n");
        WhoPrompts x = withTwoRows();
        due("on by one", x.shift(0, 0, 0, 1, 4), 4);
        holds(x, 0, 1, 1, 2, 3, 4);
        due("back by one", x.shift(0, 1, 0, 0, 4), 4);
        holds(x, 0, 1, 2, 3, 4, 4);
        due("to itself", x.shift(0, 0, 0, 0, 5), 5);
        holds(x, 0, 1, 2, 3, 4, 4);
        due("on by one, one too many", x.shift(0, 0, 0, 1, 5), -13);
        due("back by one, one too many", x.shift(0, 1, 0, 0, 5), -13);
        holds(x, 0, 1, 2, 3, 4, 4);
        due("on by four", x.shift(0, 0, 0, 4, 1), 1);
        holds(x, 0, 1, 2, 3, 4, 1);
    }

    private static void allSixty() {
        says(33, "of 0 .. 60 elements");
        for (int sort = 0; sort < 5; sort++) {
            WhoPrompts x = new WhoPrompts();
            x.row(4, sort, 60);
            x.row(5, sort, 60);
            for (int k = 0; k < 60; k++) {
                x.put(4, k, k % 2);
            }
            due("all of sort " + sort, x.shift(4, 0, 5, 0, 60), 60);
            due("one more", x.shift(4, 0, 5, 0, 61), -13);
            for (int k = 0; k < 60; k++) {
                due("element " + k, x.element(5, k), k % 2);
            }
            due("none behind all", x.shift(4, 60, 5, 60, 0), 0);
        }
    }

    private static void shelvesToShift() {
        says(33, "BAD, -11 (either)");
        WhoPrompts x = withTwoRows();
        for (int shelf : new int[] {-1, 6, HIGH, LOW}) {
            due("from SHELF " + shelf, x.shift(shelf, 0, 1, 0, 1), -1);
            due("to SHELF " + shelf, x.shift(0, 0, shelf, 0, 1), -1);
            due("BAD ahead of -11, from " + shelf, x.shift(shelf, 0, 5, 0, 1), -1);
            due("BAD ahead of -11, to " + shelf, x.shift(5, 0, shelf, 0, 1), -1);
            due("BAD ahead of -13", x.shift(0, -1, shelf, -1, -1), -1);
        }
        holds(x, 0, 1, 2, 3, 4, 5);
        holds(x, 1, 9, 8, 7);
    }

    private static void refusedShifts() {
        says(33, "-11 (either), -12 (no ROWS, or of unlike sorts), -13");
        WhoPrompts x = withTwoRows();
        x.body(0);
        x.keep(2, 0);
        due("nothing here", x.shift(5, 0, 0, 0, 1), -11);
        due("nothing there", x.shift(0, 0, 5, 0, 1), -11);
        due("nothing at both", x.shift(4, 0, 5, 0, 0), -11);
        due("nothing to itself", x.shift(5, 0, 5, 0, 0), -11);
        due("-11 ahead of -12, here", x.shift(5, 0, 2, 0, 1), -11);
        due("-11 ahead of -12, there", x.shift(2, 0, 5, 0, 1), -11);
        due("-11 ahead of -13", x.shift(0, 9, 5, 9, 9), -11);
        due("a BODY here", x.shift(2, 0, 0, 0, 1), -12);
        due("a BODY there", x.shift(0, 0, 2, 0, 1), -12);
        due("a BODY at both", x.shift(2, 0, 2, 0, 0), -12);
        due("-12 ahead of -13", x.shift(0, 9, 2, 9, 9), -12);
        for (int sort = 1; sort < 5; sort++) {
            x.row(3, sort, 5);
            due("bytes to sort " + sort, x.shift(0, 0, 3, 0, 1), -12);
            due("sort " + sort + " to bytes", x.shift(3, 0, 0, 0, 1), -12);
            due("none of unlike sorts, " + sort, x.shift(0, 0, 3, 0, 0), -12);
            due("unlike ahead of -13, " + sort, x.shift(0, 9, 3, 0, 1), -12);
        }
        holds(x, 0, 1, 2, 3, 4, 5);
        holds(x, 3, 0, 0, 0, 0, 0);
    }

    // ---- promise 34

    private static void kindTaken() {
        says(34, "What a SHELF holds, taken for a BODY of KIND k (0 .. 7), or under it: its KIND. BAD, -11, -12.");
        WhoPrompts x = withAllKinds();
        x.keep(0, 7);
        due("k 0", x.taken(0, 0), 7);
        due("k 7", x.taken(0, 7), 7);
        x.row(2, 0, 1);
        for (int k : new int[] {-1, 8, HIGH, LOW}) {
            due("k " + k, x.taken(0, k), -1);
            due("BAD ahead of -11, k " + k, x.taken(1, k), -1);
            due("BAD ahead of -12, k " + k, x.taken(2, k), -1);
        }
    }

    private static void shelfTaken() {
        says(34, "SHELVES 0 .. 5 each hold nothing (at first), a BODY, or a ROW");
        WhoPrompts x = withAllKinds();
        for (int shelf = 0; shelf < 6; shelf++) {
            due("nothing at first on " + shelf, x.taken(shelf, 0), -11);
        }
        x.keep(0, 1);
        x.keep(5, 2);
        due("SHELF 0", x.taken(0, 0), 1);
        due("SHELF 5", x.taken(5, 0), 2);
        for (int shelf : new int[] {-1, 6, HIGH, LOW}) {
            due("SHELF " + shelf, x.taken(shelf, 0), -1);
        }
    }

    private static void underIt() {
        says(34, "0 TURN; 1 RIGHT under TURN; 2 DRIED under TURN; 3 JUMPED under DRIED; 4 PAUSED under RIGHT; "
            + "5 RINGED under JUMPED; 6 SAVED under TURN; 7 OTHERWISE under SAVED");
        String[] takenFor = {"0", "01", "02", "023", "014", "0235", "06", "067"};
        WhoPrompts x = withAllKinds();
        for (int kind = 0; kind < 8; kind++) {
            x.keep(3, kind);
            for (int k = 0; k < 8; k++) {
                due(kind + " for " + k, x.taken(3, k), takenFor[kind].indexOf('0' + k) >= 0 ? kind : -12);
            }
        }
    }

    private static void nothingOrARowTaken() {
        says(34, "-11 nothing is there where something is wanted; -12 it is of another kind");
        WhoPrompts x = withAllKinds();
        x.row(0, 0, 0);
        for (int k = 0; k < 8; k++) {
            due("a ROW for " + k, x.taken(0, k), -12);
            due("nothing for " + k, x.taken(1, k), -11);
        }
        x.keep(0, 0);
        due("a BODY in its stead", x.taken(0, 0), 0);
        x.row(0, 4, 60);
        due("a ROW again", x.taken(0, 0), -12);
        x.keep(0, -1);
        due("nothing again", x.taken(0, 0), -11);
    }

    // ---- promise 35

    private static void whatToCount() {
        says(35, "4 bodies that ran in the latest act(). BAD.");
        WhoPrompts x = new WhoPrompts();
        for (int what = 0; what < 5; what++) {
            due("count(" + what + ")", x.count(what), 0);
        }
        for (int what : new int[] {-1, 5, HIGH, LOW}) {
            due("count(" + what + ")", x.count(what), -1);
        }
    }

    private static void countsAtTheirBounds() {
        says(35, "How many: 0 LINES, 1 bytes on THE TAPE, 2 changes that may be UNDONE, 3 BODIES");
        WhoPrompts x = new WhoPrompts();
        for (int k = 1; k <= 121; k++) {
            x.line(0, 1, 0);
            due("LINES behind " + k, x.count(0), Math.min(k, 20));
        }
        WhoPrompts y = alike(1);
        for (int k = 1; k <= 121; k++) {
            y.feed('h');
            due("bytes behind " + k, y.count(1), Math.min(k, 120));
        }
        WhoPrompts z = alike(1);
        for (int k = 1; k <= 50; k++) {
            z.mend(0, 0, k % 2);
            due("CHANGES behind " + k, z.count(2), Math.min(k, 40));
        }
        for (int k = 1; k <= 60; k++) {
            z.body(5);
            due("BODIES behind " + k, z.count(3), Math.min(k, 50));
        }
        z.act(49, 3, 0);
        due("bodies that ran", z.count(4), 10);
        z.act(50, 3, 0);
        due("none ran", z.count(4), 0);
    }
}
