/** The boundary cases that the document names for jumps and ways back (promises 10 to 12). */
public final class BoundaryJumpsTest extends TestBase {
    public static void main(String[] args) {
        neitherItselfNorTheNext();
        ringsGoBack();
        byOneThenByTheOther();
        whichJump();
        kindOfJumps();
        mostJumpsThereCanBe();
        linesOfAPair();
        noJump();
        factsBehind();
        factsToldAheadInTheRow();
        whichLineOfAWay();
        longestWay();
        linesOfAWay();
        noWay();
        toTheLineItself();
        fromTheLastLine();
        needsOnTheWay();
        twiceOnTheWay();
        mostWaysThereCanBe();
        firstRowByNumbers();
        C.finish();
    }

    // ---- promise 10

    private static void neitherItselfNorTheNext() {
        says(10, "A JUMP is from i to j, if j's CUE is i's LAST WORD, and j is neither i nor i + 1");
        due("one LINE", alike(1).jumps(0, -1), 0);
        WhoPrompts two = alike(2);
        due("two alike", two.jumps(0, -1), 1);
        due("two alike: back alone", two.jumps(0, 0), 100);
        WhoPrompts three = alike(3);
        int[] all = {2, 100, 200, 201};
        due("three alike", three.jumps(0, -1), all.length);
        for (int k = 0; k < all.length; k++) {
            due("three alike, " + k, three.jumps(0, k), all[k]);
        }
        due("words unlike", play(1, 2, 3, 4).jumps(0, -1), 0);
    }

    private static void ringsGoBack() {
        says(10, "a RING, if j is less than i");
        WhoPrompts x = play(1, 20, 13, 40);
        due("JUMPS", x.jumps(0, -1), 3);
        due("on by two is no RING", x.jumps(0, 0), 2);
        due("RINGS", x.jumps(1, -1), 2);
        due("back by one", x.jumps(1, 0), 100);
        due("back to the first", x.jumps(1, 1), 300);
        due("no third", x.jumps(1, 2), -1);
    }

    private static void byOneThenByTheOther() {
        says(10, "JUMPS by i, then by j.");
        WhoPrompts x = alike(5);
        for (int kind = 0; kind < 2; kind++) {
            int before = -1;
            for (int k = 0; k < x.jumps(kind, -1); k++) {
                int ij = x.jumps(kind, k);
                C.holds("kind " + kind + ", " + k + " is behind the one ahead", ij > before);
                before = ij;
            }
        }
    }

    private static void whichJump() {
        says(10, "how many (i -1), the i-th as 100 times the one LINE and the other. BAD (none such).");
        WhoPrompts x = alike(3);
        for (int kind = 0; kind < 2; kind++) {
            int many = 4 - kind;
            due("kind " + kind + ", -1", x.jumps(kind, -1), many);
            due("kind " + kind + ", the last", x.jumps(kind, many - 1), 201);
            for (int i : new int[] {-2, many, many + 1, HIGH, LOW}) {
                due("jumps(" + kind + ", " + i + ")", x.jumps(kind, i), -1);
            }
        }
        WhoPrompts none = new WhoPrompts();
        due("without LINES, -1", none.jumps(1, -1), 0);
        due("without LINES, 0", none.jumps(1, 0), -1);
        due("without LINES, -2", none.jumps(0, -2), -1);
    }

    private static void kindOfJumps() {
        says(10, "JUMPS (kind 0), RINGS (1)");
        WhoPrompts x = alike(3);
        for (int kind : new int[] {-1, 2, HIGH, LOW}) {
            due("jumps(" + kind + ", -1)", x.jumps(kind, -1), -1);
            due("jumps(" + kind + ", 0)", x.jumps(kind, 0), -1);
        }
    }

    private static void mostJumpsThereCanBe() {
        says(10, "BAD (none such)");
        WhoPrompts x = alike(20);
        due("JUMPS", x.jumps(0, -1), 361);
        due("the first", x.jumps(0, 0), 2);
        due("the last", x.jumps(0, 360), 1918);
        due("none behind", x.jumps(0, 361), -1);
        due("RINGS", x.jumps(1, -1), 190);
        due("the first RING", x.jumps(1, 0), 100);
        due("the last RING", x.jumps(1, 189), 1918);
        due("no RING behind", x.jumps(1, 190), -1);
    }

    // ---- promise 11

    private static void linesOfAPair() {
        says(11, "BEHIND a JUMP (ij: 100 times the one LINE and the other), as bits. BAD");
        WhoPrompts x = alike(3);
        due("behind(201)", x.behind(201), 0);
        for (int ij : new int[] {-1, -100, 3, 99, 203, 300, 301, HIGH, LOW}) {
            due("behind(" + ij + ")", x.behind(ij), -1);
        }
        WhoPrompts full = alike(20);
        due("the last to the last but one", full.behind(1918), 0);
        due("no LINE 20 to come from", full.behind(2000), -1);
        due("no LINE 20 to go to", full.behind(1920), -1);
        due("no LINE 99", full.behind(99), -1);
        due("without LINES", new WhoPrompts().behind(0), -1);
    }

    private static void noJump() {
        says(11, "NOT: it is no JUMP.");
        WhoPrompts x = play(0, 0, 0, 11);
        due("to itself", x.behind(0), -2);
        due("to the next", x.behind(1), -2);
        due("to the one behind it", x.behind(2), 0);
        due("to another word", x.behind(3), -2);
        due("from the last", x.behind(300), -2);
        due("to itself, the last", x.behind(303), -2);
    }

    private static void factsBehind() {
        says(11, "FACTS (bits) that some LINE of this row needs, and none ahead of it in the row tells");
        WhoPrompts x = new WhoPrompts();
        x.line(0, 1, 0);
        x.line(0, 1, 255000);
        x.line(0, 1, 255);
        due("all are lacking", x.behind(2), 255);
        due("none is lacking", x.behind(100), 0);
        due("none is lacking from the last", x.behind(200), 0);
        WhoPrompts y = new WhoPrompts();
        y.line(0, 1, 128);
        y.line(0, 1, 0);
        y.line(0, 1, 1);
        due("the first and the last need", y.behind(2), 129);
    }

    private static void factsToldAheadInTheRow() {
        says(11, "LINES 0 to i are said, then j and all behind it in order");
        WhoPrompts x = new WhoPrompts();
        x.line(0, 1, 1000);
        x.line(0, 1, 2002);
        x.line(0, 1, 4001);
        x.line(0, 1, 8);
        due("what it tells itself is not ahead", x.behind(100), 2 | 8);
        due("LINE i tells too", x.behind(2), 8);
        due("what is jumped over tells nothing", x.behind(3), 8);
        WhoPrompts y = new WhoPrompts();
        y.line(0, 1, 0);
        y.line(0, 1, 8000);
        y.line(0, 1, 0);
        y.line(0, 1, 8);
        due("told by the one jumped over", y.behind(2), 8);
        due("told by LINE i", y.behind(103), 0);
        due("told at first", y.behind(200), 0);
        WhoPrompts z = new WhoPrompts();
        z.line(0, 1, 0);
        z.line(0, 1, 0);
        z.line(0, 1, 8000);
        z.line(0, 1, 16000);
        z.line(0, 1, 24);
        due("told by j and behind it", z.behind(2), 0);
        due("told behind j alone", z.behind(3), 8);
    }

    // ---- promise 12

    private static void whichLineOfAWay() {
        says(12, "how many (k -1), the k-th LINE. BAD (none such); NOT.");
        WhoPrompts x = play(1, 12, 23, 34);
        due("k -1", x.way(3, -1), 3);
        due("k 0", x.way(3, 0), 1);
        due("k 2", x.way(3, 2), 3);
        for (int k : new int[] {-2, 3, 60, HIGH, LOW}) {
            due("way(3, " + k + ")", x.way(3, k), -1);
        }
        due("a way of one, k 0", x.way(203, 0), 3);
        due("a way of one, k 1", x.way(203, 1), -1);
    }

    private static void longestWay() {
        says(12, "the fewest LINES more (t among them) till LINE t is said");
        WhoPrompts x = new WhoPrompts();
        for (int k = 0; k < 20; k++) {
            x.line(1, 1, 0);
        }
        due("from the first to the last", x.way(19, -1), 19);
        for (int k = 0; k < 19; k++) {
            due("its " + k + "-th", x.way(19, k), k + 1);
        }
        due("no 19-th", x.way(19, 19), -1);
        due("to the next", x.way(1, -1), 1);
    }

    private static void linesOfAWay() {
        says(12, "BACK (it: 100 times LINE i and t)");
        WhoPrompts x = alike(3);
        due("way(201, -1)", x.way(201, -1), 1);
        for (int it : new int[] {-1, -100, 3, 99, 203, 300, HIGH, LOW}) {
            due("way(" + it + ", -1)", x.way(it, -1), -1);
            due("way(" + it + ", 0)", x.way(it, 0), -1);
        }
        WhoPrompts full = alike(20);
        due("way(1918, -1)", full.way(1918, -1), 1);
        due("way(1920, -1)", full.way(1920, -1), -1);
        due("way(2000, -1)", full.way(2000, -1), -1);
        due("without LINES", new WhoPrompts().way(0, -1), -1);
    }

    private static void noWay() {
        says(12, "the first row of LINES (by numbers, one by one); NOT.");
        WhoPrompts x = play(1, 12, 23);
        for (int k : new int[] {-1, 0, 1, 20, HIGH}) {
            due("way(200, " + k + ")", x.way(200, k), -2);
        }
        due("BAD ahead of NOT", x.way(200, -2), -1);
        due("BAD ahead of NOT, MIN", x.way(200, LOW), -1);
    }

    private static void toTheLineItself() {
        says(12, "from LINE i, behind which THE LINES 0 to i and those on the way are said");
        WhoPrompts one = alike(1);
        due("one LINE alone", one.way(0, -1), -2);
        WhoPrompts two = alike(2);
        due("over the other", two.way(0, -1), 2);
        due("to the other", two.way(0, 0), 1);
        due("and back", two.way(0, 1), 0);
        due("the last, over the first", two.way(101, -1), 2);
    }

    private static void fromTheLastLine() {
        says(12, "each the NEXT one or a JUMP");
        WhoPrompts x = play(1, 12, 20);
        due("by a JUMP from the last", x.way(200, -1), 1);
        due("and on", x.way(201, -1), 2);
        WhoPrompts y = play(1, 12, 23);
        due("no JUMP from the last", y.way(200, -1), -2);
        due("not to itself", y.way(202, -1), -2);
        WhoPrompts full = alike(20);
        due("from LINE 19 to itself", full.way(1919, -1), 2);
        due("over the first", full.way(1919, 0), 0);
    }

    private static void needsOnTheWay() {
        says(12, "none that NEEDS what was not told by then");
        WhoPrompts x = new WhoPrompts();
        x.line(10, 1, 0);
        x.line(20, 1, 128000);
        x.line(0, 1, 128);
        due("over the one that tells", x.way(2, -1), 2);
        due("that one first", x.way(2, 0), 1);
        due("told already", x.way(102, -1), 1);
        WhoPrompts own = new WhoPrompts();
        own.line(10, 1, 0);
        own.line(20, 1, 1001);
        due("what it tells itself was not told by then", own.way(1, -1), -2);
        WhoPrompts all = new WhoPrompts();
        all.line(10, 1, 255000);
        all.line(20, 1, 255);
        due("all FACTS told by LINE i", all.way(1, -1), 1);
        WhoPrompts start = new WhoPrompts();
        start.line(10, 1, 255);
        start.line(20, 1, 0);
        due("what LINE i itself needs is no matter", start.way(1, -1), 1);
        due("but to say it again is", start.way(100, -1), -2);
    }

    private static void twiceOnTheWay() {
        says(12, "(LINES may come twice)");
        WhoPrompts x = new WhoPrompts();
        x.line(91, 1, 0);
        x.line(12, 1, 0);
        x.line(51, 1, 1000);
        x.line(58, 1, 2);
        x.line(27, 1, 1);
        // LINE 3 never can be; 4 comes behind 1 alone, and needs what 2 tells: 1, 2, 1 again, 4.
        int[] row = {1, 2, 1, 4};
        due("how many", x.way(4, -1), row.length);
        for (int k = 0; k < row.length; k++) {
            due("the " + k + "-th", x.way(4, k), row[k]);
        }
        due("from where it was told", x.way(204, -1), 2);
        due("never", x.way(3, -1), -2);
    }

    /** 20 LINES of which each may follow each, and 8 FACTS: as many ways as there can be. */
    private static void mostWaysThereCanBe() {
        says(12, "the fewest LINES more (t among them)");
        for (int facts = 7; facts <= 8; facts++) {
            WhoPrompts x = new WhoPrompts();
            for (int k = 0; k < 19; k++) {
                x.line(0, 1, k > 0 && k % 2 == 0 && k / 2 <= facts ? 1000 << k / 2 - 1 : 0);
            }
            x.line(0, 1, 255);
            due("all of " + facts + " FACTS, then the last", x.way(19, -1), facts == 8 ? 9 : -2);
            for (int k = 0; facts == 8 && k < 8; k++) {
                due("the " + k + "-th", x.way(19, k), 2 + 2 * k);
            }
            due("none behind", x.way(19, 9), facts == 8 ? -1 : -2);
            due("four FACTS were told", x.way(819, -1), facts == 8 ? 5 : -2);
        }
    }

    private static void firstRowByNumbers() {
        says(12, "the first row of LINES (by numbers, one by one)");
        WhoPrompts x = alike(5);
        due("from the last to itself", x.way(404, -1), 2);
        due("over the first", x.way(404, 0), 0);
        due("from the first to itself", x.way(0, -1), 2);
        due("over the next", x.way(0, 0), 1);
        // From 0 the JUMPS to 2 and 3 and the NEXT 1 all lead to 4 in two.
        WhoPrompts y = play(1, 24, 14, 14, 45);
        due("two", y.way(4, -1), 2);
        due("by the least", y.way(4, 0), 1);
        WhoPrompts z = play(1, 25, 14, 14, 45);
        due("two again", z.way(4, -1), 2);
        due("by the least that leads there", z.way(4, 0), 2);
    }
}
