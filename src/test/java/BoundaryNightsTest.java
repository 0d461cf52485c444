/** The boundary cases that the document names for nights (promises 13 to 17). */
public final class BoundaryNightsTest extends TestBase {
    public static void main(String[] args) {
        nightWithoutLines();
        zIsAnInt();
        belowKnows();
        knowsNothingOrAll();
        firstLineIsNeverJumpedTo();
        greatestHeld();
        endsBehindTheLastLine();
        endsBehindSixty();
        nightsOfAllLengths();
        figuresTold();
        toldWithoutANight();
        secondsOfLines();
        lacks();
        whichLineSaid();
        saidWithoutANight();
        whatSaid();
        aShorterNightBehind();
        refusedNightsLeaveTheNight();
        howManyNights();
        whatMean();
        meanWithoutLines();
        cutEach();
        zGoesOn();
        shelfOfATape();
        whatOfATape();
        nothingOnTheShelf();
        noRowOfBytes();
        emptyTape();
        fullTape();
        notTheFirstLineAtFirst();
        neitherNextNorAJump();
        bytesThatAreNoLines();
        jumpsOfATape();
        tapeWithoutLines();
        C.finish();
    }

    /** (z >>> 8) % 100 behind one step from a SEED, worked out without ints that wrap. */
    private static int drawn(int seed) {
        long z = seed * 1103515245L + 12345 & 0xFFFFFFFFL;
        return (int) (z / 256 % 100);
    }

    // ---- promise 13

    private static void nightWithoutLines() {
        says(13, "A NIGHT by a SEED: LINES said. STATE: there are no LINES.");
        WhoPrompts x = new WhoPrompts();
        for (int seed : new int[] {0, 1, -1, HIGH, LOW}) {
            due("night(" + seed + ")", x.night(seed), -5);
        }
        due("there is no NIGHT then", x.told(0), -5);
        x.line(0, 1, 0);
        due("with one LINE", x.night(0), 1);
        due("there is one then", x.told(0), 1);
    }

    private static void zIsAnInt() {
        says(13, "z = z * 1103515245 + 12345 (an int; SEED at first)");
        for (int seed : new int[] {0, 1, 2, 3, -1, -2, HIGH, HIGH - 1, LOW, LOW + 1, 1 << 30, 123456789}) {
            int v = drawn(seed);
            WhoPrompts x = alike(1);
            x.mend(0, 0, v);
            x.night(seed);
            due("SEED " + seed + ", KNOWS " + v, x.said(0, 1), 2);
            x.mend(0, 0, v + 1);
            x.night(seed);
            due("SEED " + seed + ", KNOWS " + (v + 1), x.said(0, 1), 0);
        }
    }

    private static int seedThatDraws(int v) {
        int seed = 0;
        while (drawn(seed) != v) {
            seed++;
        }
        return seed;
    }

    private static void belowKnows() {
        says(13, "if (z >>> 8) % 100 is below KNOWS of the NEXT one: RIGHT");
        int[][] drawnKnowsHow = {{0, 0, 2}, {0, 1, 0}, {1, 1, 2}, {50, 50, 2}, {50, 51, 0}, {99, 99, 2}, {99, 100, 0}};
        for (int[] t : drawnKnowsHow) {
            WhoPrompts x = alike(1);
            x.mend(0, 0, t[1]);
            x.night(seedThatDraws(t[0]));
            due(t[0] + " drawn, KNOWS " + t[1], x.said(0, 1), t[2]);
        }
        // KNOWS of the NEXT one counts, not of the one that is jumped to.
        WhoPrompts x = play(0, 11, 0);
        law(x, 0, "i=1?0;100");
        due("the NEXT one is not known", x.night(0), 2);
        due("jumped to 2", x.said(1, 0), 2);
    }

    private static void knowsNothingOrAll() {
        says(13, "(held within 0 .. 100)");
        WhoPrompts x = play(1, 23, 45);
        for (int seed = 0; seed < 40; seed++) {
            law(x, 0, "101");
            x.night(seed);
            due("all RIGHT by " + seed, x.told(4) + x.told(2), 0);
            law(x, 0, "-1");
            x.night(seed);
            due("all DRIED by " + seed, x.told(4), 3);
        }
    }

    private static void firstLineIsNeverJumpedTo() {
        says(13, "behind none: LINE 0 is next");
        WhoPrompts x = alike(20);
        law(x, 0, "0");
        x.mend(19, 0, 100);
        due("0 dries, then the last", x.night(1), 2);
        due("the first LINE", x.said(0, 0), 0);
        due("is DRIED", x.said(0, 1), 2);
        due("then the last", x.said(1, 0), 19);
        due("is JUMPED to", x.said(1, 1), 1);
    }

    private static void greatestHeld() {
        says(13, "JUMPED to that j with the greatest HELD (of like ones the first)");
        WhoPrompts x = alike(6);
        law(x, 0, "0");
        x.night(0);
        due("of like ones the first", x.said(1, 0), 2);
        x.mend(4, 0, 51);
        x.night(0);
        due("51 is greater than 50", x.said(1, 0), 4);
        x.mend(3, 0, 51);
        x.night(0);
        due("of like ones the first again", x.said(1, 0), 3);
        x.mend(0, 0, 100);
        x.mend(1, 0, 100);
        x.night(0);
        due("neither itself nor the next", x.said(1, 0), 3);
        WhoPrompts zero = alike(3);
        law(zero, 0, "0");
        for (int i = 0; i < 3; i++) {
            zero.mend(i, 0, 0);
        }
        zero.night(0);
        due("HELD 0 will do", zero.said(1, 0), 2);
    }

    private static void endsBehindTheLastLine() {
        says(13, "It ends behind the last LINE, or behind 60 LINES said.");
        WhoPrompts x = alike(20);
        law(x, 0, "100");
        due("all 20 RIGHT", x.night(0), 20);
        due("the last one", x.said(19, 0), 19);
        law(x, 0, "0");
        x.mend(19, 0, 51);
        due("jumped to the last", x.night(0), 2);
        due("DRIED alone", alike(1).night(seedThatDraws(99)), 1);
    }

    private static void endsBehindSixty() {
        says(13, "or behind 60 LINES said");
        WhoPrompts x = play(0, 0, 0, 11);
        law(x, 0, "0");
        due("round and round", x.night(0), 60);
        due("told(0)", x.told(0), 60);
        due("JUMPS", x.told(2), 59);
        due("DRIED", x.told(4), 1);
        due("the 60th", x.said(59, 0), 2);
        due("no 61st", x.said(60, 0), -1);
        due("its mean", x.mean(0, 20, 0), 60);
    }

    private static void nightsOfAllLengths() {
        says(13, "A NIGHT by a SEED");
        boolean[] endedAt = new boolean[61];
        boolean[] brokenOffAt = new boolean[61];
        for (int from = 0; from < 2000; from += 8) {
            // From 1 and 2 one may jump back to 0, and 3, the last one, is known but seldom.
            WhoPrompts x = play(11, 91, 91, 88);
            law(x, 0, "i=2?50;i=3?4;100");
            for (int seed = from; seed < from + 8; seed++) {
                int many = x.night(seed);
                due("told(0) of " + seed, x.told(0), many);
                C.holds("1 to 60 by " + seed, many >= 1 && many <= 60);
                int last = x.said(many - 1, 0);
                due("none behind, " + seed, x.said(many, 0), -1);
                C.holds("it ends behind the last LINE or the 60th, " + seed, last == 3 || many == 60);
                (last == 3 ? endedAt : brokenOffAt)[many] = true;
                tapeOfTheNightMayBe(x, many, seed == from);
            }
        }
        C.holds("some ended behind the last LINE as the 59th", endedAt[59]);
        C.holds("some ended behind the last LINE as the 60th", endedAt[60]);
        C.holds("some were broken off behind 60", brokenOffAt[60]);
    }

    private static void tapeOfTheNightMayBe(WhoPrompts x, int many, boolean look) {
        if (look) {
            x.row(0, 0, many);
            for (int k = 0; k < many; k++) {
                x.put(0, k, x.said(k, 0));
            }
            due("its tape can be so", x.tape(0, 0), -2);
            due("with its JUMPS", x.tape(0, 1), x.told(2));
        }
    }

    // ---- promise 14

    private static void figuresTold() {
        says(14, "THE NIGHT: 0 LINES said, 1 SECONDS, 2 JUMPS, 3 LACKS, 4 DRIED. BAD");
        WhoPrompts x = alike(3);
        law(x, 0, "0");
        x.night(0);
        int[] told = {2, 1 + 2 + 1, 1, 0, 1};
        for (int what = 0; what < 5; what++) {
            due("told(" + what + ")", x.told(what), told[what]);
        }
        for (int what : new int[] {-1, 5, HIGH, LOW}) {
            due("told(" + what + ")", x.told(what), -1);
        }
    }

    private static void toldWithoutANight() {
        says(14, "BAD; STATE: there is none.");
        WhoPrompts x = alike(1);
        for (int what = 0; what < 5; what++) {
            due("told(" + what + ")", x.told(what), -5);
        }
        due("BAD ahead of STATE, -1", x.told(-1), -1);
        due("BAD ahead of STATE, 5", x.told(5), -1);
        x.mean(0, 1, 0);
        due("a mean is no NIGHT that is kept", x.told(0), -5);
    }

    private static void secondsOfLines() {
        says(14, "SECONDS: of each LINE said its PART's PAUSE and LONG, and WAIT if DRIED");
        WhoPrompts x = new WhoPrompts();
        x.line(501, 30, 0);
        x.line(23, 30, 0);
        x.mend(5, 1, 9);
        x.set(0, 9);
        law(x, 0, "0");
        x.night(0);
        due("all as long as may be", x.told(1), 9 + 30 + 9 + 30 + 9);
        law(x, 0, "100");
        x.night(0);
        due("no WAIT if RIGHT", x.told(1), 9 + 30 + 30);
        x.set(0, 0);
        x.mend(5, 1, 0);
        law(x, 0, "0");
        x.night(0);
        due("no PAUSE, no WAIT", x.told(1), 60);
        WhoPrompts y = alike(3);
        law(y, 0, "0");
        y.set(0, 9);
        y.night(0);
        due("no WAIT if JUMPED", y.told(1), 1 + 9 + 1);
    }

    private static void lacks() {
        says(14, "LACKS: how many LINES said need a FACT that no LINE said ahead tells");
        WhoPrompts x = new WhoPrompts();
        x.line(1, 1, 255255);
        x.line(23, 1, 255);
        x.line(45, 1, 0);
        law(x, 0, "100");
        x.night(0);
        due("the first, by what it tells itself", x.told(3), 1);
        due("all FACTS", x.said(0, 2), 255);
        due("none", x.said(1, 2), 0);
        WhoPrompts all = new WhoPrompts();
        for (int k = 0; k < 20; k++) {
            all.line(1, 1, 128);
        }
        law(all, 0, "100");
        all.night(0);
        due("all of 20", all.told(3), 20);
        all.night(0);
        due("all of 20 on another NIGHT", all.told(3), 20);
        WhoPrompts over = new WhoPrompts();
        over.line(0, 1, 0);
        over.line(0, 1, 1000);
        over.line(0, 1, 1);
        law(over, 0, "0");
        over.night(0);
        due("the one that tells was jumped over", over.told(3), 1);
    }

    // ---- promise 15

    private static void whichLineSaid() {
        says(15, "THE NIGHT's k-th LINE said: which (what 0), how (1: 0 RIGHT, 1 JUMPED, 2 DRIED), "
            + "FACTS that it lacked (2). BAD");
        WhoPrompts x = play(1, 23, 45);
        law(x, 0, "i=1?0;100");
        x.night(0);
        int[][] said = {{0, 0, 0}, {1, 2, 0}, {2, 0, 0}};
        for (int k = 0; k < 3; k++) {
            for (int what = 0; what < 3; what++) {
                due("said(" + k + ", " + what + ")", x.said(k, what), said[k][what]);
            }
        }
        for (int k : new int[] {-1, 3, 59, 60, 61, HIGH, LOW}) {
            for (int what = 0; what < 3; what++) {
                due("said(" + k + ", " + what + ")", x.said(k, what), -1);
            }
        }
    }

    private static void saidWithoutANight() {
        says(15, "FACTS that it lacked (2). BAD; STATE.");
        WhoPrompts x = alike(20);
        for (int k : new int[] {0, 1, 19, 20, 59, 60, 61, HIGH}) {
            due("said(" + k + ", 0)", x.said(k, 0), -5);
            due("said(" + k + ", 2)", x.said(k, 2), -5);
            due("BAD ahead of STATE, said(" + k + ", 3)", x.said(k, 3), -1);
            due("BAD ahead of STATE, said(" + k + ", -1)", x.said(k, -1), -1);
        }
        due("BAD ahead of STATE, said(-1, 0)", x.said(-1, 0), -1);
        due("BAD ahead of STATE, said(MIN, 0)", x.said(LOW, 0), -1);
    }

    private static void whatSaid() {
        says(15, "BAD (-1): no such number, or it is not as said");
        WhoPrompts x = alike(1);
        x.night(0);
        for (int what : new int[] {-1, 3, HIGH, LOW}) {
            due("said(0, " + what + ")", x.said(0, what), -1);
        }
        due("said(0, 2)", x.said(0, 2), 0);
    }

    private static void aShorterNightBehind() {
        says(15, "THE NIGHT kept is the latest one of night().");
        WhoPrompts x = alike(20);
        law(x, 0, "100");
        due("20 LINES", x.night(0), 20);
        law(x, 0, "0");
        x.mend(19, 0, 100);
        due("2 LINES", x.night(0), 2);
        due("the second", x.said(1, 0), 19);
        due("no third now", x.said(2, 0), -1);
        due("no 20th now", x.said(19, 0), -1);
        due("told(0)", x.told(0), 2);
        due("JUMPS", x.told(2), 1);
        due("DRIED", x.told(4), 1);
    }

    private static void refusedNightsLeaveTheNight() {
        says(15, "THE NIGHT kept is the latest one");
        WhoPrompts x = alike(3);
        law(x, 0, "100");
        x.night(0);
        law(x, 0, "0");
        x.mean(0, 0, 0);
        x.mean(0, 20, 0);
        x.line(0, 1, 0);
        x.mend(0, 1, 9);
        x.set(0, 9);
        due("LINES said", x.told(0), 3);
        due("SECONDS", x.told(1), 3);
        due("how", x.said(0, 1), 0);
    }

    // ---- promise 16

    private static void howManyNights() {
        says(16, "MEAN: of n NIGHTS (1 .. 20)");
        WhoPrompts x = alike(1);
        due("n 1", x.mean(0, 1, 0), 1);
        due("n 20", x.mean(0, 20, 0), 1);
        for (int n : new int[] {0, -1, 21, HIGH, LOW}) {
            due("n " + n, x.mean(0, n, 0), -1);
        }
        due("SEED MAX", x.mean(HIGH, 20, 0), 1);
        due("SEED MIN", x.mean(LOW, 20, 0), 1);
    }

    private static void whatMean() {
        says(16, "MEAN (what as of told()). BAD");
        WhoPrompts x = alike(3);
        law(x, 0, "0");
        int[] means = {2, 4, 1, 0, 1};
        for (int what = 0; what < 5; what++) {
            due("what " + what, x.mean(0, 20, what), means[what]);
        }
        for (int what : new int[] {-1, 5, HIGH, LOW}) {
            due("what " + what, x.mean(0, 20, what), -1);
        }
    }

    private static void meanWithoutLines() {
        says(16, "MEAN (what as of told()). BAD; STATE: there are no LINES.");
        WhoPrompts x = new WhoPrompts();
        due("n 1", x.mean(0, 1, 0), -5);
        due("n 20", x.mean(0, 20, 4), -5);
        due("BAD ahead of STATE, n 0", x.mean(0, 0, 0), -1);
        due("BAD ahead of STATE, n 21", x.mean(0, 21, 0), -1);
        due("BAD ahead of STATE, what 5", x.mean(0, 1, 5), -1);
        due("BAD ahead of STATE, what -1", x.mean(0, 1, -1), -1);
    }

    private static void cutEach() {
        says(16, "SECONDS, LINES said, JUMPS, LACKS, DRIED (cut each)");
        // Of two NIGHTS one is DRIED: the mean of 0 and 1 is cut to 0, that of 1 and 1 is 1.
        for (int seed = 0; seed < 50; seed++) {
            WhoPrompts x = alike(1);
            int z = seed * 1103515245 + 12345;
            int dried = (drawn(seed) >= 50 ? 1 : 0) + (drawn(z) >= 50 ? 1 : 0);
            due("DRIED " + dried + " of 2 by " + seed, x.mean(seed, 2, 4), dried / 2);
            due("SECONDS by " + seed, x.mean(seed, 2, 1), (2 + 2 * dried) / 2);
            x.set(0, 3);
            due("SECONDS cut by " + seed, x.mean(seed, 2, 1), (2 + 3 * dried) / 2);
        }
    }

    private static void zGoesOn() {
        says(16, "z going on from one to the next");
        WhoPrompts x = play(1, 23, 45);
        int z = 5;
        int dried = 0;
        for (int k = 0; k < 60; k++) {
            dried += drawn(z) >= 50 ? 1 : 0;
            z = z * 1103515245 + 12345;
        }
        due("DRIED of 20 NIGHTS of 3", x.mean(5, 20, 4), dried / 20);
        x.set(0, 9);
        due("SECONDS of them", x.mean(5, 20, 1), (60 + 9 * dried) / 20);
        WhoPrompts round = play(0, 0, 0, 11);
        law(round, 0, "0");
        due("of nights broken off", round.mean(5, 20, 2), 59);
    }

    // ---- promise 17

    private static void shelfOfATape() {
        says(17, "TAPE on a SHELF (what 0), its JUMPS (1). BAD");
        WhoPrompts x = alike(1);
        bytes(x, 0, 0);
        bytes(x, 5, 0);
        due("SHELF 0", x.tape(0, 0), -2);
        due("SHELF 5", x.tape(5, 1), 0);
        for (int shelf : new int[] {-1, 6, HIGH, LOW}) {
            due("SHELF " + shelf, x.tape(shelf, 0), -1);
            due("its JUMPS", x.tape(shelf, 1), -1);
        }
    }

    private static void whatOfATape() {
        says(17, "BAD, -11, -12 (no ROW of bytes); NOT (what 0); STATE (what 1): it can't be so.");
        WhoPrompts x = alike(2);
        bytes(x, 0, 0, 1);
        row(x, 1, 1, 0, 1);
        bytes(x, 3, 1);
        for (int what : new int[] {-1, 2, HIGH, LOW}) {
            for (int shelf = 0; shelf < 4; shelf++) {
                due("what " + what + " of SHELF " + shelf, x.tape(shelf, what), -1);
            }
        }
        due("can be so", x.tape(0, 0), -2);
        due("can be so, its JUMPS", x.tape(0, 1), 0);
        due("can't be so", x.tape(3, 0), 0);
        due("can't be so, its JUMPS", x.tape(3, 1), -5);
    }

    private static void nothingOnTheShelf() {
        says(17, "-11 nothing is there where something is wanted");
        WhoPrompts x = alike(1);
        due("at first", x.tape(0, 0), -11);
        due("at first, JUMPS", x.tape(0, 1), -11);
        bytes(x, 0, 0);
        x.keep(0, -1);
        due("taken away", x.tape(0, 0), -11);
    }

    private static void noRowOfBytes() {
        says(17, "-12 (no ROW of bytes)");
        WhoPrompts x = alike(1);
        for (int sort = 0; sort < 5; sort++) {
            x.row(0, sort, 1);
            due("sort " + sort, x.tape(0, 0), sort == 0 ? -2 : -12);
            due("sort " + sort + ", JUMPS", x.tape(0, 1), sort == 0 ? 0 : -12);
            x.row(0, sort, 0);
            due("none of sort " + sort, x.tape(0, 0), sort == 0 ? -2 : -12);
        }
        x.body(7);
        x.keep(0, 0);
        due("a BODY", x.tape(0, 0), -12);
        due("a BODY, JUMPS", x.tape(0, 1), -12);
    }

    private static void emptyTape() {
        says(17, "NOT: it can. SURE: how many JUMPS it has.");
        for (int lines = 0; lines < 2; lines++) {
            WhoPrompts x = alike(lines);
            x.row(0, 0, 0);
            due("with " + lines + " LINES", x.tape(0, 0), -2);
            due("JUMPS with " + lines + " LINES", x.tape(0, 1), 0);
        }
    }

    private static void fullTape() {
        says(17, "of 0 .. 60 elements");
        WhoPrompts x = alike(2);
        x.row(0, 0, 60);
        for (int k = 1; k < 60; k += 2) {
            x.put(0, k, 1);
        }
        due("60 LINES to and fro", x.tape(0, 0), -2);
        due("its JUMPS", x.tape(0, 1), 29);
        x.put(0, 59, 0);
        due("the last can't be so", x.tape(0, 0), 59);
        due("its JUMPS then", x.tape(0, 1), -5);
        x.put(0, 59, 2);
        due("no such LINE at last", x.tape(0, 0), 59);
    }

    private static void notTheFirstLineAtFirst() {
        says(17, "the first place at which it can't be so (not the first LINE at first; neither NEXT nor a JUMP)");
        WhoPrompts x = alike(3);
        for (int v = -1; v < 4; v++) {
            bytes(x, 0, v);
            due("first " + v, x.tape(0, 0), v == 0 ? -2 : 0);
        }
        bytes(x, 0, 1, 9, 9);
        due("the first place of several", x.tape(0, 0), 0);
        bytes(x, 0, 0, 9, 9);
        due("the second of several", x.tape(0, 0), 1);
    }

    private static void neitherNextNorAJump() {
        says(17, "neither NEXT nor a JUMP");
        WhoPrompts x = play(0, 10, 0, 11);
        int[][] tapes = {{0, 0}, {0, 1}, {0, 2}, {0, 3}, {0, 1, 0}, {0, 1, 1}, {0, 1, 2}, {0, 1, 3}, {0, 1, 2, 2},
            {0, 1, 2, 0}, {0, 1, 2, 1}, {0, 1, 2, 3}, {0, 1, 2, 3, 1}, {0, 1, 2, 3, 3}, {0, 1, 2, 3, 0},
            {0, 1, 2, 3, 4}};
        int[] places = {1, -2, -2, 1, -2, 2, -2, 2, 3, -2, 3, -2, -2, 4, 4, 4};
        for (int k = 0; k < tapes.length; k++) {
            bytes(x, 0, tapes[k]);
            due("tape " + k, x.tape(0, 0), places[k]);
            C.holds("STATE just where it can't be, " + k, places[k] == -2 == x.tape(0, 1) >= 0);
        }
    }

    private static void bytesThatAreNoLines() {
        says(17, "a ROW of bytes: LINES as they were said");
        WhoPrompts x = alike(20);
        for (int v : new int[] {-128, -1, 20, 32, 64, 127}) {
            bytes(x, 0, 0, v);
            due("byte " + v, x.tape(0, 0), 1);
        }
        for (int v = 1; v < 20; v++) {
            bytes(x, 0, 0, v);
            due("byte " + v, x.tape(0, 0), -2);
        }
        bytes(x, 0, 0, 256 + 19);
        due("275 keeps its lowest bits", x.tape(0, 0), -2);
    }

    private static void jumpsOfATape() {
        says(17, "SURE: how many JUMPS it has");
        WhoPrompts x = alike(4);
        int[][] tapes = {{0}, {0, 1}, {0, 2}, {0, 2, 0}, {0, 2, 1, 2, 3}, {0, 3, 0, 3, 0}};
        int[] jumps = {0, 0, 1, 2, 2, 4};
        for (int k = 0; k < tapes.length; k++) {
            bytes(x, 0, tapes[k]);
            due("tape " + k, x.tape(0, 1), jumps[k]);
        }
    }

    private static void tapeWithoutLines() {
        says(17, "(not the first LINE at first;");
        WhoPrompts x = new WhoPrompts();
        bytes(x, 0, 0);
        due("there is no first LINE", x.tape(0, 0), 0);
        due("its JUMPS", x.tape(0, 1), -5);
        x.line(0, 1, 0);
        due("then there is", x.tape(0, 0), -2);
    }
}
