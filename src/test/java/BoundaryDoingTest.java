/** The boundary cases that the document names for what to do (promises 18 to 25). */
public final class BoundaryDoingTest extends TestBase {
    public static void main(String[] args) {
        partToPrompt();
        whatOfAPrompt();
        waitsToNine();
        lessThanPause();
        ofLikeWaitsTheLeast();
        promptWithoutLines();
        promptOfAllLines();
        howManyEvenings();
        whichLineOfEvenings();
        eveningsWithoutLines();
        ofLikeLinesTheFirst();
        heldAHundredAtMost();
        lineAheadOfIt();
        eveningsInThought();
        howManyToCut();
        whatOfACut();
        moreThanThereAre();
        needsOfTheOthers();
        fewestRingsFirst();
        mostSecondsThen();
        leastBitsThen();
        cutOfTwenty();
        noSetToCut();
        partAndHowManyForTheNewspaper();
        whatOfTheNewspaper();
        atMostSoMany();
        noneThatAddNothing();
        leastBitsInTheNewspaper();
        greatestSum();
        imageOfLines();
        allThatItKeeps();
        noImage();
        changesAreForgotten();
        theLatestFirst();
        fortyAtMost();
        fortyAndOneMore();
        fortyOfManyNumbers();
        fortyWithSomeUndone();
        noneToUndo();
        doneAgain();
        noOtherBehind();
        noneToDoAgain();
        C.finish();
    }

    // ---- promise 18

    private static void partToPrompt() {
        says(18, "PROMPT for a PART (0 .. 5): the WAIT (what 0), the sum (1). BAD.");
        WhoPrompts x = play(0, 500);
        x.mend(0, 0, 100);
        x.mend(0, 1, 1);
        x.mend(1, 0, 100);
        x.mend(5, 1, 9);
        due("PART 0", x.prompt(0, 0), 1);
        due("PART 5", x.prompt(5, 0), 9);
        for (int part : new int[] {-1, 6, HIGH, LOW}) {
            due("PART " + part, x.prompt(part, 0), -1);
            due("PART " + part + ", the sum", x.prompt(part, 1), -1);
        }
    }

    private static void whatOfAPrompt() {
        says(18, "the WAIT (what 0), the sum (1). BAD.");
        WhoPrompts x = alike(1);
        for (int what : new int[] {-1, 2, HIGH, LOW}) {
            due("what " + what, x.prompt(0, what), -1);
        }
        due("what 0", x.prompt(0, 0), 0);
        due("what 1", x.prompt(0, 1), 0);
    }

    private static void waitsToNine() {
        says(18, "PROMPT: of WAITS 0 .. 9 that");
        for (int pause = 0; pause <= 9; pause++) {
            WhoPrompts x = alike(1);
            x.mend(0, 1, pause);
            x.mend(0, 0, 100);
            due("PAUSE " + pause + ", KNOWS 100", x.prompt(0, 0), pause);
            due("its sum", x.prompt(0, 1), 0);
            x.mend(0, 0, 99);
            due("PAUSE " + pause + ", KNOWS 99", x.prompt(0, 0), pause);
            due("that sum", x.prompt(0, 1), pause);
            x.mend(0, 0, 0);
            due("PAUSE " + pause + ", KNOWS 0", x.prompt(0, 0), 0);
            due("sum 0", x.prompt(0, 1), 0);
        }
    }

    private static void lessThanPause() {
        says(18, "and of 5 times KNOWS where the WAIT is less than PAUSE, is least; that sum");
        int[][] pauseKnowsWaitSum = {{9, 64, 0, 320}, {9, 65, 9, 315}, {1, 16, 0, 80}, {1, 17, 1, 83}, {5, 49, 0, 245},
            {5, 51, 5, 245}, {0, 50, 0, 0}, {1, 100, 1, 0}, {9, 100, 9, 0}};
        for (int[] t : pauseKnowsWaitSum) {
            WhoPrompts x = alike(1);
            x.mend(0, 1, t[0]);
            x.mend(0, 0, t[1]);
            due("PAUSE " + t[0] + ", KNOWS " + t[1], x.prompt(0, 0), t[2]);
            due("its sum", x.prompt(0, 1), t[3]);
        }
    }

    private static void ofLikeWaitsTheLeast() {
        says(18, "(of like ones the least) by which for a PART");
        WhoPrompts x = alike(1);
        x.mend(0, 1, 5);
        due("WAIT 0 and 5 alike at 250", x.prompt(0, 0), 0);
        due("that sum", x.prompt(0, 1), 250);
        law(x, 0, "100");
        x.mend(0, 1, 3);
        due("WAITS 3 to 9 alike at 0", x.prompt(0, 0), 3);
        law(x, 0, "0");
        due("WAIT 0 alone at 0", x.prompt(0, 0), 0);
    }

    private static void promptWithoutLines() {
        says(18, "the sum over its LINES of (100 less KNOWS) times the WAIT");
        WhoPrompts x = new WhoPrompts();
        x.mend(0, 1, 9);
        due("no LINES, the WAIT", x.prompt(0, 0), 0);
        due("no LINES, the sum", x.prompt(0, 1), 0);
        x.line(100, 1, 0);
        due("none of the PART, the WAIT", x.prompt(0, 0), 0);
        due("none of the PART, the sum", x.prompt(0, 1), 0);
    }

    private static void promptOfAllLines() {
        says(18, "the sum over its LINES");
        WhoPrompts x = alike(20);
        x.mend(0, 1, 9);
        law(x, 0, "65");
        due("of 20 the WAIT", x.prompt(0, 0), 9);
        due("of 20 the sum", x.prompt(0, 1), 20 * 315);
        law(x, 0, "64");
        due("of 20 the WAIT, just not", x.prompt(0, 0), 0);
        due("of 20 the sum, just not", x.prompt(0, 1), 20 * 320);
    }

    // ---- promise 19

    private static void howManyEvenings() {
        says(19, "EVENINGS: n times (0 .. 30) that LINE is rehearsed");
        WhoPrompts x = alike(1);
        law(x, 1, "1");
        due("n 0", x.evenings(0, -1), 50);
        due("n 0, how often", x.evenings(0, 0), 0);
        due("n 1", x.evenings(1, -1), 49);
        due("n 30", x.evenings(30, -1), 20);
        due("n 30, how often", x.evenings(30, 0), 30);
        for (int n : new int[] {-1, 31, HIGH, LOW}) {
            due("n " + n, x.evenings(n, -1), -1);
            due("n " + n + ", how often", x.evenings(n, 0), -1);
        }
    }

    private static void whichLineOfEvenings() {
        says(19, "EVENINGS: HARM then (line -1), how often a LINE was rehearsed. BAD");
        WhoPrompts x = alike(3);
        due("line -1", x.evenings(0, -1), 50 * (1 + (1 + 1) + (1 + 1)));
        due("the last", x.evenings(0, 2), 0);
        for (int line : new int[] {-2, 3, 20, HIGH, LOW}) {
            due("line " + line, x.evenings(0, line), -1);
        }
        WhoPrompts full = alike(20);
        due("line 19", full.evenings(30, 19), 1);
        due("line 20", full.evenings(30, 20), -1);
    }

    private static void eveningsWithoutLines() {
        says(19, "BAD; STATE: there are no LINES.");
        WhoPrompts x = new WhoPrompts();
        due("n 0", x.evenings(0, -1), -5);
        due("n 30", x.evenings(30, -1), -5);
        due("BAD ahead of STATE, n 31", x.evenings(31, -1), -1);
        due("BAD ahead of STATE, n -1", x.evenings(-1, -1), -1);
        due("BAD ahead of STATE, line -2", x.evenings(0, -2), -1);
        due("BAD ahead of STATE, no LINE 0", x.evenings(0, 0), -1);
    }

    private static void ofLikeLinesTheFirst() {
        says(19, "by which HARM becomes least (of like ones the first)");
        WhoPrompts x = play(1, 23, 45);
        for (int n = 0; n <= 3; n++) {
            for (int line = 0; line < 3; line++) {
                due("n " + n + ", LINE " + line, x.evenings(n, line), line < n ? 1 : 0);
            }
        }
        law(x, 1, "0");
        due("none gains: the first each time", x.evenings(30, 0), 30);
        due("HARM stays", x.evenings(30, -1), 150);
        law(x, 1, "100");
        due("all HELD 100 behind three: the first", x.evenings(30, 0), 28);
        due("no HARM then", x.evenings(30, -1), 0);
    }

    private static void heldAHundredAtMost() {
        says(19, "(0 .. 100; HELD 100 at most)");
        WhoPrompts x = new WhoPrompts();
        x.line(1, 10, 0);
        x.line(23, 9, 0);
        law(x, 1, "60");
        x.mend(0, 0, 56);
        // 44 times 10 is less than 50 times 9.
        due("what is over 100 does not count", x.evenings(1, 1), 1);
        due("HARM then", x.evenings(1, -1), 440);
        x.mend(0, 0, 55);
        due("45 times 10: like, so the first", x.evenings(1, 0), 1);
        due("HARM not below 0", x.evenings(30, -1), 0);
    }

    private static void lineAheadOfIt() {
        says(19, "(LONG and how many JUMPS there are from the LINE ahead of it)");
        WhoPrompts full = alike(20);
        // None is ahead of the first; of the 19 others' LINES ahead each has 18 JUMPS.
        due("HARM of 20 alike", full.evenings(0, -1), 50 * (1 + 19 * 19));
        WhoPrompts one = new WhoPrompts();
        one.line(0, 30, 0);
        due("HARM of one", one.evenings(0, -1), 1500);
        one.mend(0, 0, 0);
        due("HELD 0", one.evenings(0, -1), 3000);
        one.mend(0, 0, 100);
        due("HELD 100", one.evenings(0, -1), 0);
    }

    private static void eveningsInThought() {
        says(19, "HARM then; how often a LINE was. In thought.");
        WhoPrompts x = alike(2);
        due("once", x.evenings(30, -1), x.evenings(30, -1));
        due("HELD stays", x.of(0, 6), 50);
        due("HELD of the other", x.of(1, 6), 50);
        due("no CHANGE", x.count(2), 0);
        due("HARM as it was", x.evenings(0, -1), 100);
    }

    // ---- promise 20

    private static void howManyToCut() {
        says(20, "CUT: of all sets of n LINES (0 .. 3)");
        WhoPrompts x = alike(5);
        int[] bits = {0, 1, 3, 7};
        int[] rings = {10, 6, 3, 1};
        for (int n = 0; n <= 3; n++) {
            due("n " + n, x.cut(n, 0), bits[n]);
            due("RINGS of n " + n, x.cut(n, 1), rings[n]);
        }
        for (int n : new int[] {-1, 4, 31, 32, HIGH, LOW}) {
            due("n " + n, x.cut(n, 0), -1);
            due("RINGS of n " + n, x.cut(n, 1), -1);
        }
    }

    private static void whatOfACut() {
        says(20, "CUT: the bits (what 0), RINGS (1). BAD; NOT.");
        WhoPrompts x = alike(2);
        for (int what : new int[] {-1, 2, HIGH, LOW}) {
            due("what " + what, x.cut(0, what), -1);
            due("BAD ahead of NOT, what " + what, x.cut(3, what), -1);
        }
    }

    private static void moreThanThereAre() {
        says(20, "then least bits: the bits; RINGS; NOT.");
        for (int lines = 0; lines <= 3; lines++) {
            WhoPrompts x = alike(lines);
            for (int n = 0; n <= 3; n++) {
                due(n + " of " + lines, x.cut(n, 0), n > lines ? -2 : (1 << n) - 1);
                int left = lines - n;
                due("RINGS, " + n + " of " + lines, x.cut(n, 1), n > lines ? -2 : left * (left - 1) / 2);
            }
        }
    }

    private static void needsOfTheOthers() {
        says(20, "without which each NEED of the others is told ahead by one of them (in order)");
        WhoPrompts x = new WhoPrompts();
        x.line(1, 30, 128000);
        x.line(23, 1, 128);
        due("the one that tells stays", x.cut(1, 0), 2);
        due("both may go", x.cut(2, 0), 3);
        WhoPrompts behind = new WhoPrompts();
        behind.line(1, 1, 1);
        behind.line(23, 30, 1000);
        due("told behind is not ahead", behind.cut(0, 0), -2);
        due("the one that needs goes", behind.cut(1, 0), 1);
        WhoPrompts own = new WhoPrompts();
        own.line(1, 1, 1001);
        due("told by itself is not ahead", own.cut(0, 0), -2);
        due("it goes", own.cut(1, 0), 1);
        WhoPrompts twice = new WhoPrompts();
        twice.line(1, 30, 1000);
        twice.line(23, 29, 1000);
        twice.line(45, 1, 1);
        due("one of two that tell may go", twice.cut(1, 0), 1);
        due("not both", twice.cut(2, 0), 1 + 4);
    }

    private static void fewestRingsFirst() {
        says(20, "those with fewest RINGS among the others (numbers stay; the NEXT of a LINE is the one behind it "
            + "that is left)");
        WhoPrompts x = new WhoPrompts();
        x.line(1, 30, 0);
        x.line(22, 1, 0);
        x.line(32, 1, 0);
        x.line(45, 30, 0);
        // The one RING is from 2 to 1; a cut of 0 or 3 would take more SECONDS.
        due("RINGS as it is", x.cut(0, 1), 1);
        due("a LINE of the RING goes", x.cut(1, 0), 2);
        due("no RING then", x.cut(1, 1), 0);
        // The RING from 2 to 0 is one still if 1 between them is cut, however long 1 is.
        WhoPrompts y = new WhoPrompts();
        y.line(2, 1, 0);
        y.line(13, 30, 0);
        y.line(20, 1, 0);
        due("a RING over a LINE", y.cut(0, 1), 1);
        due("that LINE stays", y.cut(1, 0), 1);
        due("no RING without the first", y.cut(1, 1), 0);
    }

    private static void mostSecondsThen() {
        says(20, "then most SECONDS (LONG) cut");
        WhoPrompts x = new WhoPrompts();
        int[] seconds = {29, 30, 28, 30, 29};
        for (int k = 0; k < 5; k++) {
            x.line(1, seconds[k], 0);
        }
        int[] bits = {0, 2, 2 + 8, 1 + 2 + 8};
        for (int n = 0; n <= 3; n++) {
            due("n " + n, x.cut(n, 0), bits[n]);
        }
    }

    private static void leastBitsThen() {
        says(20, "then least bits");
        WhoPrompts x = play(1, 1, 1, 1);
        due("one", x.cut(1, 0), 1);
        due("two", x.cut(2, 0), 3);
        due("three", x.cut(3, 0), 7);
    }

    private static void cutOfTwenty() {
        says(20, "of all sets of n LINES");
        WhoPrompts x = new WhoPrompts();
        for (int k = 0; k < 20; k++) {
            x.line(1, k < 17 ? 1 : 30, 0);
        }
        due("the last three", x.cut(3, 0), 7 << 17);
        due("the first of the last three", x.cut(1, 0), 1 << 17);
        WhoPrompts ends = new WhoPrompts();
        for (int k = 0; k < 20; k++) {
            ends.line(1, k == 0 || k == 10 || k == 19 ? 30 : 1, 0);
        }
        due("far from one another", ends.cut(3, 0), 1 | 1 << 10 | 1 << 19);
        due("the RINGS of 17 alike", alike(20).cut(3, 1), 17 * 16 / 2);
    }

    private static void noSetToCut() {
        says(20, "BAD; NOT.");
        WhoPrompts x = new WhoPrompts();
        for (int k = 0; k < 4; k++) {
            x.line(1, 1, 1);
        }
        for (int n = 0; n <= 3; n++) {
            due("four need what none tells, n " + n, x.cut(n, 0), -2);
            due("RINGS, n " + n, x.cut(n, 1), -2);
        }
        WhoPrompts y = new WhoPrompts();
        for (int k = 0; k < 3; k++) {
            y.line(1, 1, 1);
        }
        due("three of them, n 2", y.cut(2, 0), -2);
        due("three of them, n 3", y.cut(3, 0), 7);
    }

    // ---- promise 21

    private static void partAndHowManyForTheNewspaper() {
        says(21, "NEWSPAPER (pn: 10 times the PART and n): bits (what 0), the sum (1). BAD.");
        WhoPrompts x = play(0, 500);
        due("PART 0, n 0", x.newspaper(0, 0), 0);
        due("PART 0, n 1", x.newspaper(1, 0), 1);
        due("PART 0, n 5", x.newspaper(5, 0), 1);
        due("PART 5, n 0", x.newspaper(50, 0), 0);
        due("PART 5, n 5", x.newspaper(55, 0), 2);
        WhoPrompts all = play(0, 100, 200, 300, 400, 500);
        for (int pn = 0; pn < 60; pn++) {
            int bits = pn % 10 == 0 ? 0 : 1 << pn / 10;
            due("one LINE of each PART, pn " + pn, all.newspaper(pn, 0), pn % 10 > 5 ? -1 : bits);
        }
        for (int pn : new int[] {-1, -10, 6, 9, 16, 19, 56, 59, 60, 61, 65, HIGH, LOW}) {
            due("pn " + pn, x.newspaper(pn, 0), -1);
            due("pn " + pn + ", the sum", x.newspaper(pn, 1), -1);
        }
    }

    private static void whatOfTheNewspaper() {
        says(21, "bits (what 0), the sum (1). BAD.");
        WhoPrompts x = alike(1);
        for (int what : new int[] {-1, 2, HIGH, LOW}) {
            due("what " + what, x.newspaper(1, what), -1);
        }
        due("the sum", x.newspaper(1, 1), 50);
    }

    private static void atMostSoMany() {
        says(21, "NEWSPAPER: of a PART at most n LINES (0 .. 5)");
        WhoPrompts x = alike(20);
        for (int n = 0; n <= 5; n++) {
            due("n " + n, x.newspaper(n, 0), (1 << n) - 1);
            due("the sum of n " + n, x.newspaper(n, 1), 50 * n);
        }
        WhoPrompts four = alike(4);
        due("five of four", four.newspaper(5, 0), 15);
        due("the sum of four", four.newspaper(5, 1), 200);
        due("without LINES", new WhoPrompts().newspaper(5, 0), 0);
        due("the sum without LINES", new WhoPrompts().newspaper(5, 1), 0);
    }

    private static void noneThatAddNothing() {
        says(21, "none that add nothing");
        WhoPrompts x = alike(3);
        x.mend(0, 0, 100);
        x.mend(1, 0, 99);
        due("KNOWS 100 adds nothing, 99 does", x.newspaper(5, 0), 2 + 4);
        due("the sum", x.newspaper(5, 1), 51);
        law(x, 0, "101");
        due("all known", x.newspaper(5, 0), 0);
        due("the sum 0", x.newspaper(5, 1), 0);
    }

    private static void leastBitsInTheNewspaper() {
        says(21, "(of like ones the least bits;");
        WhoPrompts x = new WhoPrompts();
        int[] seconds = {1, 2, 1, 2, 2, 1};
        for (int s : seconds) {
            x.line(1, s, 0);
        }
        int[] bits = {0, 2, 2 + 8, 2 + 8 + 16, 1 + 2 + 8 + 16, 1 + 2 + 4 + 8 + 16};
        for (int n = 0; n <= 5; n++) {
            due("n " + n, x.newspaper(n, 0), bits[n]);
        }
        x.mend(0, 0, 0);
        due("100 times 1 like 50 times 2", x.newspaper(1, 0), 1);
    }

    private static void greatestSum() {
        says(21, "by which the sum of (100 less KNOWS) times LONG of those is greatest");
        WhoPrompts x = new WhoPrompts();
        for (int k = 0; k < 20; k++) {
            x.line(501, k < 15 ? 29 : 30, 0);
        }
        law(x, 0, "0");
        due("the last five", x.newspaper(55, 0), 31 << 15);
        due("the greatest sum there can be", x.newspaper(55, 1), 5 * 100 * 30);
        law(x, 0, "i=0?0;i=19?99;100");
        due("the first and the last", x.newspaper(55, 0), 1 | 1 << 19);
        due("29 times 100 and 30 times 1", x.newspaper(55, 1), 2930);
    }

    // ---- promises 22 and 23

    private static void imageOfLines() {
        says(22, "AN IMAGE is kept: how many LINES.");
        WhoPrompts x = new WhoPrompts();
        due("none", x.image(), 0);
        due("none known", x.back(), 0);
        x.line(0, 1, 0);
        due("known stays none", x.back(), 0);
        due("one", x.image(), 1);
        due("one known", x.back(), 1);
        WhoPrompts full = alike(20);
        due("20", full.image(), 20);
        full.mend(19, 0, 7);
        full.mend(0, 0, 7);
        due("20 known", full.back(), 20);
        due("HELD of the last", full.of(19, 6), 50);
        due("HELD of the first", full.of(0, 6), 50);
    }

    private static void allThatItKeeps() {
        says(23, "AN IMAGE keeps HELD of all LINES there, WAIT, NERVES.");
        WhoPrompts x = alike(2);
        x.mend(0, 0, 100);
        x.mend(1, 0, 0);
        x.set(0, 9);
        x.set(1, 9);
        x.image();
        x.line(0, 1, 0);
        x.mend(0, 0, 1);
        x.mend(1, 0, 2);
        x.mend(2, 0, 3);
        x.mend(5, 1, 4);
        x.set(0, 0);
        x.set(1, 0);
        law(x, 0, "11");
        due("back()", x.back(), 2);
        due("HELD 100", x.of(0, 6), 100);
        due("HELD 0", x.of(1, 6), 0);
        due("a LINE that came later stays", x.of(2, 6), 3);
        due("PAUSE stays", x.of(5, 10), 4);
        due("the LAW stays", x.of(0, 7), 11);
        due("WAIT", x.set(0, 9), 9);
        due("NERVES", x.set(1, 9), 9);
        due("three LINES", x.count(0), 3);
    }

    private static void noImage() {
        says(23, "how many LINES it knew. STATE: there is none.");
        WhoPrompts x = alike(1);
        x.mend(0, 0, 7);
        x.set(0, 7);
        due("none", x.back(), -5);
        due("CHANGES stay", x.count(2), 1);
        due("HELD stays", x.of(0, 6), 7);
        due("WAIT stays", x.set(0, 7), 7);
        x.image();
        due("one", x.back(), 1);
        due("it stays kept", x.back(), 1);
    }

    private static void changesAreForgotten() {
        says(23, "All that it keeps is as in THE IMAGE (CHANGES are forgotten)");
        WhoPrompts x = alike(1);
        x.mend(0, 0, 7);
        x.mend(0, 0, 8);
        x.image();
        due("an IMAGE forgets none", x.count(2), 2);
        x.undo();
        x.back();
        due("none to undo", x.undo(), -5);
        due("none to do again", x.redo(), -5);
        due("HELD as in THE IMAGE", x.of(0, 6), 8);
        due("count(2)", x.count(2), 0);
        x.mend(0, 0, 9);
        due("CHANGES from now on", x.undo(), 0);
        due("back to that of THE IMAGE", x.of(0, 6), 8);
    }

    // ---- promises 24 and 25

    private static void theLatestFirst() {
        says(24, "CHANGES (HELD of LINES, PAUSE of PARTS) can be UNDONE, the latest first");
        WhoPrompts x = alike(1);
        x.mend(0, 0, 0);
        x.mend(0, 1, 9);
        x.mend(0, 0, 100);
        due("three", x.count(2), 3);
        due("undo()", x.undo(), 2);
        due("HELD", x.of(0, 6), 0);
        due("PAUSE still", x.of(0, 10), 9);
        due("undo() again", x.undo(), 1);
        due("PAUSE", x.of(0, 10), 0);
        due("undo() the first", x.undo(), 0);
        due("HELD at first", x.of(0, 6), 50);
        due("no more", x.undo(), -5);
    }

    private static WhoPrompts changed(int times) {
        WhoPrompts x = alike(1);
        for (int k = 1; k <= times; k++) {
            x.mend(0, 0, k);
        }
        return x;
    }

    private static void fortyAtMost() {
        says(24, "40 at most are kept");
        for (int times : new int[] {39, 40}) {
            WhoPrompts x = changed(times);
            due(times + " are kept", x.count(2), times);
            for (int k = times - 1; k >= 0; k--) {
                due("still " + k, x.undo(), k);
            }
            due("no more", x.undo(), -5);
            due("HELD at first", x.of(0, 6), 50);
            for (int k = times - 1; k >= 0; k--) {
                due("again, still " + k, x.redo(), k);
            }
            due("HELD at last", x.of(0, 6), times);
            due("none more again", x.redo(), -5);
        }
    }

    private static void fortyAndOneMore() {
        says(24, "40 at most are kept");
        for (int times : new int[] {41, 42, 49}) {
            WhoPrompts x = changed(times);
            due("40 of " + times, x.count(2), 40);
            for (int k = 39; k >= 0; k--) {
                due("of " + times + " still " + k, x.undo(), k);
                due("HELD as behind the one ahead", x.of(0, 6), times - 40 + k);
            }
            due("no more of " + times, x.undo(), -5);
            due("the oldest can't be UNDONE", x.of(0, 6), times - 40);
            for (int k = 39; k >= 0; k--) {
                due("again of " + times + " still " + k, x.redo(), k);
            }
            due("HELD at last", x.of(0, 6), times);
        }
    }

    /** CHANGES of many LINES and PARTS, more than are kept; each step back and on shows all of them. */
    private static void fortyOfManyNumbers() {
        says(24, "CHANGES (HELD of LINES, PAUSE of PARTS) can be UNDONE, the latest first, and DONE AGAIN");
        int many = 47;
        WhoPrompts x = alike(3);
        int[][] behind = new int[many + 1][];
        behind[0] = new int[] {50, 50, 50, 0, 0, 0, 0, 0, 0};
        for (int k = 1; k <= many; k++) {
            boolean held = k % 2 == 0;
            int number = held ? k % 3 : k % 6;
            int v = held ? k : 1 + k % 9;
            x.mend(number, held ? 0 : 1, v);
            behind[k] = behind[k - 1].clone();
            behind[k][held ? number : 3 + number] = v;
        }
        int kept = x.count(2);
        due("kept", kept, 40);
        for (int k = many - 1; k >= many - 40; k--) {
            x.undo();
            due("UNDONE to " + k, differences(x, behind[k], k), 0);
        }
        due("no more", x.undo(), -5);
        for (int k = many - 39; k <= many; k++) {
            x.redo();
            due("DONE AGAIN to " + k, differences(x, behind[k], k), 0);
        }
        due("none more", x.redo(), -5);
    }

    /** Looks at one HELD and one PAUSE, others each time, to stay within an object's calls. */
    private static int differences(WhoPrompts x, int[] due, int k) {
        int found = 0;
        for (int i = 0; i < 2; i++) {
            found += x.of((k + i) % 3, 6) == due[(k + i) % 3] ? 0 : 1;
            found += x.of((k + i) % 6, 10) == due[3 + (k + i) % 6] ? 0 : 1;
        }
        return found;
    }

    private static void fortyWithSomeUndone() {
        says(24, "(as long as no other came behind); 40 at most are kept");
        WhoPrompts x = changed(40);
        due("one UNDONE", x.undo(), 39);
        x.mend(0, 0, 99);
        due("40 again", x.count(2), 40);
        for (int k = 39; k >= 0; k--) {
            due("still " + k, x.undo(), k);
        }
        due("none was dropped", x.of(0, 6), 50);
        WhoPrompts y = changed(40);
        y.undo();
        y.undo();
        y.mend(0, 0, 99);
        due("39 then", y.count(2), 39);
        y.mend(0, 0, 98);
        y.mend(0, 0, 97);
        due("40 at most", y.count(2), 40);
        for (int k = 0; k < 40; k++) {
            y.undo();
        }
        due("just the oldest was dropped", y.of(0, 6), 1);
    }

    private static void noneToUndo() {
        says(24, "UNDONE: how many may still be. STATE: none.");
        WhoPrompts x = alike(1);
        due("at first", x.undo(), -5);
        due("a mend that is refused", x.mend(0, 0, 101), -1);
        due("still none", x.undo(), -5);
        x.set(0, 5);
        x.rehearse(0);
        due("WAIT and a rehearsal are no CHANGES", x.undo(), -5);
        x.mend(0, 0, 66);
        due("to what it is", x.undo(), -5);
        x.mend(0, 0, 65);
        due("one", x.undo(), 0);
        due("and no more", x.undo(), -5);
        due("HELD", x.of(0, 6), 66);
    }

    private static void doneAgain() {
        says(25, "DONE AGAIN: how many may still be. STATE: none.");
        WhoPrompts x = changed(2);
        x.mend(0, 1, 9);
        x.undo();
        x.undo();
        x.undo();
        due("redo()", x.redo(), 2);
        due("HELD", x.of(0, 6), 1);
        due("redo() again", x.redo(), 1);
        due("HELD then", x.of(0, 6), 2);
        due("redo() the last", x.redo(), 0);
        due("PAUSE", x.of(0, 10), 9);
        due("no more", x.redo(), -5);
        due("all may be UNDONE", x.count(2), 3);
    }

    private static void noOtherBehind() {
        says(25, "DONE AGAIN (as long as no other came behind)");
        WhoPrompts x = changed(3);
        x.undo();
        due("a mend that is refused", x.mend(0, 1, 10), -1);
        due("a mend to what it is", x.mend(0, 0, 2), 2);
        due("a STATE ahead of it", x.back(), -5);
        x.rehearse(0);
        x.set(1, 5);
        x.image();
        due("none of these is a CHANGE", x.redo(), 0);
        due("HELD", x.of(0, 6), 3);
        x.undo();
        x.undo();
        x.mend(0, 1, 1);
        due("another came behind", x.redo(), -5);
        due("two may be UNDONE", x.count(2), 2);
    }

    private static void noneToDoAgain() {
        says(25, "STATE: none.");
        WhoPrompts x = alike(1);
        due("at first", x.redo(), -5);
        x.mend(0, 0, 7);
        due("none UNDONE", x.redo(), -5);
        x.undo();
        due("one UNDONE", x.redo(), 0);
        due("no more", x.redo(), -5);
        due("HELD", x.of(0, 6), 7);
    }
}
