import java.util.Arrays;

/** The boundary cases that the document names for the play (promises 1 to 9), a method for each sentence. */
public final class BoundaryPlayTest extends TestBase {
    /** A law that works out to the greatest int. */
    private static final String GREATEST = "9999*9999*21+9999*4790+8416";

    public static void main(String[] args) {
        noLinesAtFirst();
        fiveHundredTwelveCalls();
        partOfALine();
        cueAndLastWord();
        longOfALine();
        tellsAndNeeds();
        heldAtFirst();
        twentyLines();
        badLineAheadOfFull();
        shelfOfLines();
        howManyFromARow();
        rowMissing();
        noRowOfShorts();
        rowEnds();
        rowEndsWithinAFive();
        oneFromARowIsNotAsItMayBe();
        fullWhileLinesCome();
        needsFromARow();
        badLinesAheadOfOtherKind();
        aByteForTheTape();
        hundredTwentyBytes();
        whichLaw();
        tapeIsEmptyThen();
        oneOrMoreLinesOfAText();
        numbersOfOneToFourDigits();
        sixOpenAtOnce();
        noBlanks();
        comparedOnce();
        textsOf120Bytes();
        faultPlaces();
        eachTextFromItsStart();
        intsThatWrap();
        dividedTowardZero();
        oneOrZero();
        theFirstThatCounts();
        otherLinesWithItsCue();
        knowsWithinBounds();
        knowsWithoutAText();
        gainsWithinBounds();
        gainsWithoutAText();
        aFaultLeavesTheLaw();
        waitWithinBounds();
        nervesWithinBounds();
        whatToSet();
        heldWithinBounds();
        pauseWithinBounds();
        whatToMend();
        whatOf();
        howManyJumpsFromALine();
        howManyLinesOfAPart();
        numbersOf();
        rehearsedToAHundred();
        rehearsedLine();
        C.finish();
    }

    // ---- promise 1

    private static void noLinesAtFirst() {
        says(1, "No lines.");
        WhoPrompts x = new WhoPrompts();
        due("count(0)", x.count(0), 0);
        due("of(0, 0)", x.of(0, 0), -1);
        due("jumps(0, -1)", x.jumps(0, -1), 0);
        due("jumps(1, -1)", x.jumps(1, -1), 0);
        due("night(0)", x.night(0), -5);
        due("cut(1, 0)", x.cut(1, 0), -2);
        due("image()", x.image(), 0);
        due("line(0, 1, 0) is LINE 0", x.line(0, 1, 0), 0);
    }

    private static void fiveHundredTwelveCalls() {
        says(1, "An object is used for at most 512 calls after it has been made");
        WhoPrompts x = alike(20);
        for (int k = 1; k <= 120; k++) {
            due("byte " + k, x.feed('h'), k);
        }
        for (int k = 0; k < 50; k++) {
            due("body " + k, x.body(k % 8), k);
        }
        for (int k = 191; k <= 511; k++) {
            x.mend(k % 20, 0, k % 100);
        }
        due("undo() as the 512th call", x.undo(), 39);
        WhoPrompts y = new WhoPrompts();
        for (int k = 1; k <= 511; k++) {
            due("call " + k, y.set(0, k % 10), k == 1 ? 2 : (k - 1) % 10);
        }
        due("set(0, 0) as the 512th call", y.set(0, 0), 1);
    }

    // ---- promise 2

    private static void partOfALine() {
        says(2, "a PART (0 .. 5)");
        WhoPrompts x = new WhoPrompts();
        due("line(0, 1, 0)", x.line(0, 1, 0), 0);
        due("line(-1, 1, 0)", x.line(-1, 1, 0), -1);
        due("line(-100, 1, 0)", x.line(-100, 1, 0), -1);
        due("line(500, 1, 0)", x.line(500, 1, 0), 1);
        due("line(599, 1, 0)", x.line(599, 1, 0), 2);
        due("line(600, 1, 0)", x.line(600, 1, 0), -1);
        due("line(MAX, 1, 0)", x.line(HIGH, 1, 0), -1);
        due("line(MIN, 1, 0)", x.line(LOW, 1, 0), -1);
        due("PART of LINE 0", x.of(0, 0), 0);
        due("PART of LINE 2", x.of(2, 0), 5);
        due("three came", x.count(0), 3);
    }

    private static void cueAndLastWord() {
        says(2, "a CUE (a WORD 0 .. 9, on which it goes on), a LAST WORD (0 .. 9)");
        WhoPrompts x = play(0, 9, 90, 99, 100, 109);
        int[][] words = {{0, 0}, {0, 9}, {9, 0}, {9, 9}, {0, 0}, {0, 9}};
        for (int i = 0; i < words.length; i++) {
            due("CUE of LINE " + i, x.of(i, 1), words[i][0]);
            due("LAST WORD of LINE " + i, x.of(i, 2), words[i][1]);
        }
    }

    private static void longOfALine() {
        says(2, "LONG (1 .. 30 seconds)");
        WhoPrompts x = new WhoPrompts();
        due("line(0, 1, 0)", x.line(0, 1, 0), 0);
        due("line(0, 0, 0)", x.line(0, 0, 0), -1);
        due("line(0, 30, 0)", x.line(0, 30, 0), 1);
        due("line(0, 31, 0)", x.line(0, 31, 0), -1);
        due("line(0, -1, 0)", x.line(0, -1, 0), -1);
        due("line(0, MAX, 0)", x.line(0, HIGH, 0), -1);
        due("line(0, MIN, 0)", x.line(0, LOW, 0), -1);
        due("LONG of LINE 0", x.of(0, 3), 1);
        due("LONG of LINE 1", x.of(1, 3), 30);
        due("two came", x.count(0), 2);
    }

    private static void tellsAndNeeds() {
        says(2, "TELLS (FACTS, bits 0 .. 255), NEEDS (FACTS that must have been told ahead, bits 0 .. 255)");
        WhoPrompts x = new WhoPrompts();
        int[] fits = {0, 255, 1000, 255000, 255255, 254255, 255254};
        for (int k = 0; k < fits.length; k++) {
            due("line(0, 1, " + fits[k] + ")", x.line(0, 1, fits[k]), k);
            due("its TELLS", x.of(k, 4), fits[k] / 1000);
            due("its NEEDS", x.of(k, 5), fits[k] % 1000);
        }
        for (int tn : new int[] {-1, 256, 999, 1256, 255256, 255999, 256000, 256255, -1000, HIGH, LOW}) {
            due("line(0, 1, " + tn + ")", x.line(0, 1, tn), -1);
        }
        due("so many came", x.count(0), fits.length);
    }

    private static void heldAtFirst() {
        says(2, "HELD (0 .. 100; 50 at first)");
        WhoPrompts x = alike(1);
        due("by line()", x.of(0, 6), 50);
        shorts(x, 0, 0, 0, 0, 1, 0);
        x.lines(0, 0, 1);
        due("by lines()", x.of(1, 6), 50);
    }

    private static void twentyLines() {
        says(2, "BAD, FULL: 20.");
        WhoPrompts x = alike(18);
        due("the 19th", x.line(599, 30, 255255), 18);
        due("the 20th", x.line(599, 30, 255255), 19);
        due("the 21st", x.line(0, 1, 0), -3);
        due("20 are there", x.count(0), 20);
        due("PART of the 20th", x.of(19, 0), 5);
        due("no LINE 20", x.of(20, 0), -1);
    }

    private static void badLineAheadOfFull() {
        says(2, "Answers, of several the one named first: BAD (-1)");
        WhoPrompts x = alike(20);
        due("PART 6 while FULL", x.line(600, 1, 0), -1);
        due("LONG 31 while FULL", x.line(0, 31, 0), -1);
        due("NEEDS 256 while FULL", x.line(0, 1, 256), -1);
        due("TELLS 256 while FULL", x.line(0, 1, 256000), -1);
        due("as it may be while FULL", x.line(0, 1, 0), -3);
    }

    // ---- promise 3

    private static void shelfOfLines() {
        says(3, "SHELVES 0 .. 5");
        WhoPrompts x = new WhoPrompts();
        shorts(x, 0, 0, 0, 0, 1, 0);
        shorts(x, 5, 0, 0, 0, 1, 0);
        due("lines(0, 0, 1)", x.lines(0, 0, 1), 1);
        due("lines(5, 0, 1)", x.lines(5, 0, 1), 1);
        for (int shelf : new int[] {-1, 6, HIGH, LOW}) {
            due("lines(" + shelf + ", 0, 1)", x.lines(shelf, 0, 1), -1);
        }
        due("two came", x.count(0), 2);
    }

    /** Twelve fives: as many as a ROW can have. */
    private static WhoPrompts withTwelveFives() {
        WhoPrompts x = new WhoPrompts();
        x.row(0, 1, 60);
        for (int k = 0; k < 12; k++) {
            x.put(0, 5 * k + 3, k + 1);
        }
        return x;
    }

    private static void howManyFromARow() {
        says(3, "n (1 .. 12) of them: how many came");
        WhoPrompts x = withTwelveFives();
        due("n 0", x.lines(0, 0, 0), -1);
        due("n -1", x.lines(0, 0, -1), -1);
        due("n 13", x.lines(0, 0, 13), -1);
        due("n MAX", x.lines(0, 0, HIGH), -1);
        due("n MIN", x.lines(0, 0, LOW), -1);
        due("none came", x.count(0), 0);
        due("n 1", x.lines(0, 0, 1), 1);
        due("one came", x.count(0), 1);
        due("n 12", x.lines(0, 0, 12), 12);
        due("thirteen are there", x.count(0), 13);
        due("LONG of the last", x.of(12, 3), 12);
    }

    private static void rowMissing() {
        says(3, "a SHELF that holds nothing is missing");
        WhoPrompts x = new WhoPrompts();
        for (int i : new int[] {0, 1, -1, 59, 60, HIGH, LOW}) {
            due("lines(2, " + i + ", 1)", x.lines(2, i, 1), 0);
            due("lines(2, " + i + ", 12)", x.lines(2, i, 12), 0);
        }
        shorts(x, 2, 0, 0, 0, 1, 0);
        x.keep(2, -1);
        due("a ROW was there", x.lines(2, 0, 1), 0);
        due("none came", x.count(0), 0);
    }

    private static void noRowOfShorts() {
        says(3, "-12 (no ROW of shorts;");
        WhoPrompts x = new WhoPrompts();
        for (int sort = 0; sort < 5; sort++) {
            row(x, 0, sort, 0, 0, 0, 1, 0);
            due("lines(0, 0, 1) of sort " + sort, x.lines(0, 0, 1), sort == 1 ? 1 : -12);
            due("lines(0, -1, 1) of sort " + sort, x.lines(0, -1, 1), sort == 1 ? 0 : -12);
        }
        x.row(0, 0, 0);
        due("bytes, none", x.lines(0, 0, 1), -12);
        x.body(0);
        x.keep(0, 0);
        due("a BODY", x.lines(0, 0, 1), -12);
        due("one came in all", x.count(0), 1);
    }

    private static void rowEnds() {
        says(3, "it ends where the row is missing, ends (within a five, too)");
        WhoPrompts x = withTwelveFives();
        due("from the last five", x.lines(0, 55, 12), 1);
        due("its LONG", x.of(0, 3), 12);
        for (int i : new int[] {56, 59, 60, 61, 1000, HIGH, HIGH - 4, HIGH - 59, -1, -4, -5, -60, LOW, LOW + 4}) {
            due("from place " + i, x.lines(0, i, 12), 0);
        }
        x.row(0, 1, 0);
        due("a ROW of none", x.lines(0, 0, 1), 0);
        due("one came in all", x.count(0), 1);
    }

    private static void rowEndsWithinAFive() {
        says(3, "(within a five, too)");
        for (int size = 0; size <= 16; size++) {
            WhoPrompts x = new WhoPrompts();
            x.row(0, 1, size);
            for (int k = 3; k < size; k += 5) {
                x.put(0, k, 7);
            }
            due("a ROW of " + size, x.lines(0, 0, 12), size / 5);
            due("so many are there", x.count(0), size / 5);
        }
    }

    private static void oneFromARowIsNotAsItMayBe() {
        says(3, "one is not as it may be, or LINES are FULL: those ahead came");
        int[] least = {0, 0, 0, 1, 0};
        int[] most = {5, 9, 9, 30, 255};
        for (int k = 0; k < 5; k++) {
            WhoPrompts x = new WhoPrompts();
            int[] five = {1, 1, 1, 1, 1};
            for (int v : new int[] {least[k], most[k]}) {
                five[k] = v;
                comesBetween(x, five, 3);
                due("element " + k + " is " + v, x.of(x.count(0) - 2, k), v);
            }
            for (int v : new int[] {least[k] - 1, most[k] + 1, -32768, 32767}) {
                five[k] = v;
                comesBetween(x, five, 1);
            }
            due("so many came", x.count(0), 3 + 3 + 4);
        }
    }

    private static void comesBetween(WhoPrompts x, int[] five, int want) {
        shorts(x, 0, 0, 0, 0, 1, 0, five[0], five[1], five[2], five[3], five[4], 0, 0, 0, 1, 0);
        due("second of three: " + Arrays.toString(five), x.lines(0, 0, 3), want);
    }

    private static void fullWhileLinesCome() {
        says(3, "or LINES are FULL: those ahead came");
        int[] there = {7, 8, 9, 19, 20};
        int[] come = {12, 12, 11, 1, 0};
        for (int k = 0; k < there.length; k++) {
            WhoPrompts x = withTwelveFives();
            for (int i = 0; i < there[k]; i++) {
                x.line(500, 30, 0);
            }
            due("with " + there[k] + " there", x.lines(0, 0, 12), come[k]);
            due("then there are", x.count(0), there[k] + come[k]);
            due("no LINE changed", x.of(there[k] - 1, 3), 30);
        }
    }

    private static void needsFromARow() {
        says(3, "by fives PART, CUE, LAST WORD, LONG, TELLS (NEEDS 0)");
        WhoPrompts x = new WhoPrompts();
        shorts(x, 0, 5, 9, 9, 30, 255, 0, 0, 0, 1, 0);
        due("lines(0, 0, 2)", x.lines(0, 0, 2), 2);
        int[][] expected = {{5, 9, 9, 30, 255, 0}, {0, 0, 0, 1, 0, 0}};
        for (int i = 0; i < 2; i++) {
            for (int what = 0; what < 6; what++) {
                due("of(" + i + ", " + what + ")", x.of(i, what), expected[i][what]);
            }
        }
    }

    private static void badLinesAheadOfOtherKind() {
        says(3, "Answers, of several the one named first");
        WhoPrompts x = new WhoPrompts();
        x.row(0, 0, 5);
        due("n 0 and no shorts", x.lines(0, 0, 0), -1);
        due("n 13 and no shorts", x.lines(0, 0, 13), -1);
        due("n 0 and nothing there", x.lines(1, 0, 0), -1);
        due("n 13 and nothing there", x.lines(1, 0, 13), -1);
    }

    // ---- promise 4

    private static void aByteForTheTape() {
        says(4, "A byte (0 .. 255) comes to THE TAPE");
        WhoPrompts x = new WhoPrompts();
        due("feed(-1)", x.feed(-1), -1);
        due("feed(256)", x.feed(256), -1);
        due("feed(MIN)", x.feed(LOW), -1);
        due("feed(MAX)", x.feed(HIGH), -1);
        due("none is there", x.count(1), 0);
        due("feed(0)", x.feed(0), 1);
        due("feed(255)", x.feed(255), 2);
        due("two are there", x.count(1), 2);
        due("byte 0 is no TEXT", x.law(0), -100);
        x.feed('h');
        x.feed(255);
        due("nor is byte 255", x.law(0), -101);
    }

    private static String sum(int bytes) {
        StringBuilder text = new StringBuilder(bytes % 2 == 0 ? "-h" : "h");
        while (text.length() < bytes) {
            text.append("+1");
        }
        return text.toString();
    }

    private static void hundredTwentyBytes() {
        says(4, "how many it has. BAD, FULL (120).");
        WhoPrompts x = alike(1);
        String text = sum(120);
        for (int k = 0; k < 119; k++) {
            due("byte " + (k + 1), x.feed(text.charAt(k)), k + 1);
        }
        due("the 120th", x.feed(text.charAt(119)), 120);
        due("the 121st", x.feed('*'), -3);
        due("256 while FULL", x.feed(256), -1);
        due("-1 while FULL", x.feed(-1), -1);
        due("120 are there", x.count(1), 120);
        due("what was refused is not on it", x.law(0), 1);
        due("KNOWS: -50 and 59", x.of(0, 7), 9);
        due("the first again", x.feed('h'), 1);
    }

    // ---- promise 5

    private static void whichLaw() {
        says(5, "LAW which (0, 1): 1; -100 less its FAULT; THE TAPE is empty then. BAD (THE TAPE stays)");
        WhoPrompts x = alike(1);
        x.feed('7');
        for (int which : new int[] {-1, 2, HIGH, LOW}) {
            due("law(" + which + ")", x.law(which), -1);
            due("THE TAPE stays", x.count(1), 1);
        }
        due("law(0)", x.law(0), 1);
        due("KNOWS", x.of(0, 7), 7);
        due("GAINS as without", x.of(0, 8), 16);
        x.feed('9');
        due("law(1)", x.law(1), 1);
        due("KNOWS as before", x.of(0, 7), 7);
        due("GAINS", x.of(0, 8), 9);
        x.feed('+');
        due("BAD ahead of a FAULT", x.law(2), -1);
        due("the faulty THE TAPE stays", x.count(1), 1);
    }

    private static void tapeIsEmptyThen() {
        says(5, "THE TAPE is empty then");
        WhoPrompts x = alike(1);
        due("of one byte", law(x, 0, "h"), 1);
        due("empty behind a LAW", x.count(1), 0);
        due("of a fault", law(x, 0, "+"), -100);
        due("empty behind a FAULT", x.count(1), 0);
        due("of none", x.law(0), -100);
        due("of none, the other", x.law(1), -100);
        due("of 120 bytes", law(x, 1, sum(120)), 1);
        due("empty behind 120", x.count(1), 0);
    }

    private static void oneOrMoreLinesOfAText() {
        says(5, "LINES of a text, one or more, parted by ;");
        fault("", 0);
        fault(";", 0);
        fault("h", -1);
        fault("h;", 2);
        fault("h;;h", 2);
        fault("h;h", -1);
        fault(";h", 0);
        StringBuilder many = new StringBuilder("0?1");
        while (many.length() < 115) {
            many.append(";0?1");
        }
        WhoPrompts x = alike(1);
        due("29 LINES of a text", law(x, 0, many + ";77"), 1);
        due("the last counts", x.of(0, 7), 77);
        fault(many + ";77;", 119);
    }

    /** The FAULT of a text; place -1: it has none. */
    private static void fault(String text, int place) {
        WhoPrompts x = new WhoPrompts();
        due("the text " + text, law(x, 0, text), place < 0 ? 1 : -100 - place);
        due("as LAW 1: " + text, law(x, 1, text), place < 0 ? 1 : -100 - place);
    }

    private static void numbersOfOneToFourDigits() {
        says(5, "a number (1 to 4 digits)");
        fault("0", -1);
        fault("9999", -1);
        fault("0000", -1);
        fault("10000", 4);
        fault("00000", 4);
        fault("1+9999", -1);
        fault("1+99990", 6);
        fault("9999+9999;9999?9999", -1);
        fault("(9999)9", 6);
        fault("(1)2", 3);
        fault("h2", 1);
        worth("0009", 9);
        worth("9999-9900", 99);
        worth("1000-901", 99);
    }

    /** What a text works out to; only within 0 .. 100 can it be told. */
    private static void worth(String text, int v) {
        WhoPrompts x = alike(1);
        due("LAW 0 " + text, law(x, 0, text), 1);
        due("KNOWS by " + text, x.of(0, 7), v);
        due("LAW 1 " + text, law(x, 1, text), 1);
        due("GAINS by " + text, x.of(0, 8), v);
    }

    private static void sixOpenAtOnce() {
        says(5, "At most 6 of ( ! - ahead of an O are open at once");
        for (String sign : new String[] {"(", "!", "-"}) {
            String close = sign.equals("(") ? ")" : "";
            fault(sign.repeat(6) + "h" + close.repeat(6), -1);
            fault(sign.repeat(7) + "h" + close.repeat(7), 6);
            fault(sign.repeat(5) + "(h)" + close.repeat(5), -1);
            fault(sign.repeat(6) + "(h)" + close.repeat(6), 6);
            fault(sign.repeat(5) + "!h" + close.repeat(5) + "+" + sign.repeat(6) + "h" + close.repeat(6), -1);
            fault(sign.repeat(6) + "h" + close.repeat(6) + "+" + sign.repeat(7), 14 + 6 * close.length());
        }
        fault("(!-(!-h))", -1);
        fault("(!-(!--h))", 6);
        fault("(((((h)+(h)+!h+-h+(h)))))", -1);
        fault("(((((!h+((", 9);
        fault("((((((h+h+h))))))-((((((h", 25);
        fault("((((((h-h-h))))))", -1);
        fault("((((((h--", 8);
        fault("(((((h--h)))))", -1);
        fault("!!!!!!h?!!!!!!h;------h", -1);
        fault("!!!(((h)))?(((!!!h)));---(((h)))", -1);
    }

    private static void noBlanks() {
        says(5, "No blanks.");
        fault(" ", 0);
        fault("h +1", 1);
        fault("h+ 1", 2);
        fault("h ", 1);
        fault("1 2", 1);
        fault("h\n", 1);
        fault("h\t;h", 1);
    }

    private static void comparedOnce() {
        says(5, "B = S, or S < S, S = S, S > S.");
        for (String sign : new String[] {"<", "=", ">"}) {
            fault("1" + sign + "2", -1);
            fault("1" + sign + "2" + sign + "3", 3);
            fault("(1" + sign + "2)" + sign + "3", -1);
            fault("1" + sign + "2&3" + sign + "4|5" + sign + "6", -1);
            fault("1" + sign + "2+3*4-5" + sign + "6", 9);
            fault("1" + sign, 2);
            fault(sign + "1", 0);
        }
        fault("1<2=3", 3);
        fault("1<(2=3)", -1);
    }

    private static void textsOf120Bytes() {
        says(5, "LAWS are TEXTS by THE TAPE (at most 120 bytes)");
        fault(sum(119), -1);
        fault(sum(120), -1);
        fault(sum(119) + "x", 119);
        fault(sum(119) + "+", 120);
        fault(sum(118) + "+!", 120);
        fault("(".repeat(6) + sum(113) + ")", 120);
        fault("(" + sum(118) + ")", -1);
        fault(sum(119) + ")", 119);
        WhoPrompts x = alike(1);
        StringBuilder ors = new StringBuilder("0");
        while (ors.length() < 119) {
            ors.append("|0");
        }
        due("59 times |", law(x, 0, ors.toString()), 1);
        due("KNOWS by it", x.of(0, 7), 0);
        due("59 times | and a 1", law(x, 0, ors.substring(0, 118) + "1"), 1);
        due("KNOWS by that", x.of(0, 7), 1);
    }

    private static void faultPlaces() {
        says(5, "FAULT: the place (from 0) of the first byte with which no TEXT goes on; the length, "
            + "if it ends too early.");
        fault("x", 0);
        fault("hx", 1);
        fault("h+x", 2);
        fault("h+", 2);
        fault("h+1x+", 3);
        fault("(h", 2);
        fault("(h+1", 4);
        fault("(h)", -1);
        fault("h)", 1);
        fault("h?", 2);
        fault("h?1", -1);
        fault("h?1?", 3);
        fault("(h?", 2);
        fault("(h;", 2);
        fault("?", 0);
        fault("h?;", 2);
        fault("!", 1);
        fault("-", 1);
        fault("h!", 1);
        fault("h(", 1);
        fault("hh", 1);
        fault("h1", 1);
        fault("1h", 1);
        fault("()", 1);
        fault("+h", 0);
        fault("h*-h", -1);
        fault("h**h", 2);
        fault("m", 0);
        fault("H", 0);
    }

    private static void eachTextFromItsStart() {
        says(5, "the place (from 0) of the first byte");
        WhoPrompts x = alike(1);
        String[] texts = {"(h", "h)", "7", "h1", "!!!!!!", "!!!!!!h", "1<", "1<2", "1?", "1?2", "1;", "9", "1999",
            "2999", "((((((", "((((((h))))))", "h?1?", "h?1", "-", "-h"};
        int[] places = {2, 1, -1, 1, 6, -1, 2, -1, 2, -1, 2, -1, -1, -1, 6, -1, 3, -1, 1, -1};
        for (int k = 0; k < texts.length; k++) {
            due(texts[k] + " behind the others", law(x, k / 2 % 2, texts[k]), places[k] < 0 ? 1 : -100 - places[k]);
        }
    }

    private static void intsThatWrap() {
        says(5, "Ints that wrap");
        worth(GREATEST + ">0", 1);
        worth(GREATEST + "+1<0", 1);
        worth("-(" + GREATEST + ")-1<0", 1);
        worth("-(" + GREATEST + ")-2>0", 1);
        worth("-(" + GREATEST + "+1)<0", 1);
        worth("(" + GREATEST + "+1)/-1<0", 1);
        worth("(" + GREATEST + "+1)%-1+5", 5);
        worth("(" + GREATEST + "+1)*-1<0", 1);
        worth("9999*9999*22<0", 1);
        worth("(" + GREATEST + ")*2+9", 7);
        worth("(" + GREATEST + "+1)*2+9", 9);
    }

    private static void dividedTowardZero() {
        says(5, "/ and % toward 0, by 0 they give 0");
        worth("7/2", 3);
        worth("-7/2+9", 6);
        worth("7/-2+9", 6);
        worth("-7/-2", 3);
        worth("7%2", 1);
        worth("-7%2+9", 8);
        worth("7%-2+9", 10);
        worth("-7%-2+9", 8);
        worth("1/2", 0);
        worth("5/0+3", 3);
        worth("5%0+3", 3);
        worth("0/0+3", 3);
        worth("0%0+3", 3);
        worth("5/(h-50)+3", 3);
        worth("5/(h-49)+3", 8);
        worth("5%(h-48)+3", 4);
    }

    private static void oneOrZero() {
        says(5, "| & < = > ! give 1, 0; all is worked out");
        String[] gives1 = {"9|0", "0|9", "9|9", "-9|0", "9&8", "-1&-1", "1<2", "-1<0", "2=2", "2>1", "0>-1", "!0"};
        String[] gives0 = {"0|0", "0&9", "9&0", "0&0", "2<2", "2<1", "2=1", "1=2", "2>2", "1>2", "!9", "!-9", "!1"};
        for (String text : gives1) {
            worth("(" + text + ")*7", 7);
        }
        for (String text : gives0) {
            worth("(" + text + ")*7", 0);
        }
        worth("1|5/0", 1);
        worth("0&5%0", 0);
    }

    private static void theFirstThatCounts() {
        says(5, "The first one without a first E, or whose first E is not 0, counts; none: 0.");
        worth("0?5", 0);
        worth("0?5;0?6", 0);
        worth("1?5", 5);
        worth("-1?5;6", 5);
        worth("0?5;6", 6);
        worth("0?5;6;7", 6);
        worth("0?5;0;7", 0);
        worth("0?5;3?0;7", 0);
        worth("h-50?5;h-49?6;7", 6);
        worth("0|1?5;6", 5);
        worth("0&1?5;6", 6);
        worth("1?0|1;6", 1);
        worth("h-50?5;h-50?6;7", 7);
    }

    private static void otherLinesWithItsCue() {
        says(5, "c how many other LINES have its CUE");
        WhoPrompts x = play(0, 1, 10);
        law(x, 0, "c");
        due("one other", x.of(0, 7), 1);
        due("one other, the second", x.of(1, 7), 1);
        due("none", x.of(2, 7), 0);
        WhoPrompts full = alike(20);
        law(full, 1, "c");
        due("19 others", full.of(0, 8), 19);
        due("19 others, the last", full.of(19, 8), 19);
        WhoPrompts one = alike(1);
        law(one, 0, "c");
        due("there is but one LINE", one.of(0, 7), 0);
    }

    private static void knowsWithinBounds() {
        says(5, "LAW 0 KNOWS: of 100 nights in how many a LINE is said right (held within 0 .. 100)");
        WhoPrompts x = alike(1);
        String[] laws = {"100", "101", "99", "0", "-1", "1", "9999", "-9999", GREATEST, GREATEST + "+1"};
        int[] knows = {100, 100, 99, 0, 0, 1, 100, 0, 100, 0};
        for (int k = 0; k < laws.length; k++) {
            law(x, 0, laws[k]);
            due("by " + laws[k], x.of(0, 7), knows[k]);
        }
    }

    private static void knowsWithoutAText() {
        says(5, "without a text h less 3 n");
        WhoPrompts x = alike(1);
        int[][] heldNervesKnows = {{0, 0, 0}, {100, 0, 100}, {100, 9, 73}, {27, 9, 0}, {28, 9, 1}, {26, 9, 0},
            {0, 9, 0}, {3, 1, 0}, {4, 1, 1}, {2, 1, 0}};
        for (int[] t : heldNervesKnows) {
            x.mend(0, 0, t[0]);
            x.set(1, t[1]);
            due("HELD " + t[0] + ", NERVES " + t[1], x.of(0, 7), t[2]);
        }
    }

    private static void gainsWithinBounds() {
        says(5, "LAW 1 GAINS: by how much HELD is more by an EVENING (0 .. 100; HELD 100 at most)");
        WhoPrompts x = alike(1);
        String[] laws = {"100", "101", "99", "0", "-1", "1", "9999", "-9999", GREATEST, GREATEST + "+1"};
        int[] gains = {100, 100, 99, 0, 0, 1, 100, 0, 100, 0};
        x.mend(0, 0, 0);
        for (int k = 0; k < laws.length; k++) {
            law(x, 1, laws[k]);
            due("by " + laws[k], x.of(0, 8), gains[k]);
            due("HELD 0 rehearsed by " + laws[k], x.rehearse(0), gains[k]);
            x.mend(0, 0, 0);
        }
    }

    private static void gainsWithoutAText() {
        says(5, "without: (100 less h) by 3 (cut)");
        WhoPrompts x = alike(1);
        int[] held = {100, 99, 98, 97, 96, 95, 94, 3, 2, 1, 0};
        int[] gains = {0, 0, 0, 1, 1, 1, 2, 32, 32, 33, 33};
        for (int k = 0; k < held.length; k++) {
            x.mend(0, 0, held[k]);
            due("HELD " + held[k], x.of(0, 8), gains[k]);
            due("rehearsed", x.rehearse(0), held[k] + gains[k]);
        }
    }

    private static void aFaultLeavesTheLaw() {
        says(5, "What is answered so changes nothing.");
        WhoPrompts x = alike(1);
        due("a fault ahead of any LAW", law(x, 0, "7+"), -102);
        due("KNOWS as without", x.of(0, 7), 50);
        law(x, 0, "31");
        law(x, 1, "32");
        due("a fault of the one", law(x, 0, "99;"), -103);
        due("a fault of the other", law(x, 1, "98("), -102);
        due("KNOWS as it was", x.of(0, 7), 31);
        due("GAINS as it was", x.of(0, 8), 32);
    }

    // ---- promise 6

    private static void bounds(WhoPrompts x, int what, int first) {
        due("set(" + what + ", 0)", x.set(what, 0), first);
        due("set(" + what + ", 9)", x.set(what, 9), 0);
        for (int v : new int[] {-1, 10, HIGH, LOW}) {
            due("set(" + what + ", " + v + ")", x.set(what, v), -1);
        }
        due("it is 9 still", x.set(what, 9), 9);
    }

    private static void waitWithinBounds() {
        says(6, "WAIT (0 .. 9 seconds; 2 at first)");
        WhoPrompts x = alike(1);
        law(x, 0, "0");
        x.night(0);
        due("SECONDS with WAIT 2", x.told(1), 3);
        bounds(x, 0, 2);
        x.night(0);
        due("SECONDS with WAIT 9", x.told(1), 10);
        x.set(0, 0);
        x.night(0);
        due("SECONDS with WAIT 0", x.told(1), 1);
        due("NERVES stay", x.set(1, 0), 0);
    }

    private static void nervesWithinBounds() {
        says(6, "NERVES (0 .. 9; 0 at first)");
        WhoPrompts x = alike(1);
        bounds(x, 1, 0);
        due("KNOWS with NERVES 9", x.of(0, 7), 23);
        due("WAIT stays", x.set(0, 2), 2);
    }

    private static void whatToSet() {
        says(6, "WAIT (what 0), NERVES (1) becomes v: what it was. BAD.");
        WhoPrompts x = new WhoPrompts();
        for (int what : new int[] {-1, 2, HIGH, LOW}) {
            due("set(" + what + ", 5)", x.set(what, 5), -1);
        }
        due("WAIT as at first", x.set(0, 2), 2);
        due("NERVES as at first", x.set(1, 0), 0);
        due("no CHANGE", x.count(2), 0);
    }

    // ---- promise 7

    private static void heldWithinBounds() {
        says(7, "HELD (what 0) of a LINE");
        WhoPrompts x = new WhoPrompts();
        due("no LINE", x.mend(0, 0, 5), -1);
        x.line(0, 1, 0);
        x.line(0, 1, 0);
        due("HELD 0 of the first", x.mend(0, 0, 0), 50);
        due("HELD 100 of the last", x.mend(1, 0, 100), 50);
        for (int v : new int[] {-1, 101, HIGH, LOW}) {
            due("HELD " + v, x.mend(0, 0, v), -1);
        }
        for (int number : new int[] {-1, 2, 20, HIGH, LOW}) {
            due("LINE " + number, x.mend(number, 0, 5), -1);
        }
        due("HELD 0 then", x.of(0, 6), 0);
        due("HELD 100 then", x.of(1, 6), 100);
        due("two CHANGES", x.count(2), 2);
        WhoPrompts full = alike(20);
        due("LINE 19", full.mend(19, 0, 1), 50);
        due("LINE 20", full.mend(20, 0, 1), -1);
    }

    private static void pauseWithinBounds() {
        says(7, "PAUSE of a PART (0 .. 9 seconds; 0 at first)");
        WhoPrompts x = new WhoPrompts();
        for (int part = 0; part < 6; part++) {
            due("PAUSE 9 of PART " + part, x.mend(part, 1, 9), 0);
            due("PAUSE 0 of PART " + part, x.mend(part, 1, 0), 9);
            due("PAUSE " + part, x.mend(part, 1, part), 0);
        }
        for (int v : new int[] {-1, 10, HIGH, LOW}) {
            due("PAUSE " + v, x.mend(5, 1, v), -1);
        }
        for (int part : new int[] {-1, 6, HIGH, LOW}) {
            due("PART " + part, x.mend(part, 1, 5), -1);
        }
        for (int part = 0; part < 6; part++) {
            due("PAUSE then of PART " + part, x.of(part, 10), part);
        }
        due("so many CHANGES", x.count(2), 6 * 3 - 1);
    }

    private static void whatToMend() {
        says(7, "PAUSE (1) of a PART (0 .. 5) becomes v: what it was. BAD.");
        WhoPrompts x = alike(6);
        for (int what : new int[] {-1, 2, HIGH, LOW}) {
            due("mend(0, " + what + ", 5)", x.mend(0, what, 5), -1);
        }
        due("what 0 with PAUSE's bound passed", x.mend(5, 0, 10), 50);
        due("what 1 with HELD's bound not passed", x.mend(5, 1, 10), -1);
        due("one CHANGE", x.count(2), 1);
    }

    // ---- promise 8

    private static void whatOf() {
        says(8, "9 how many JUMPS from it; of a PART: 10 PAUSE, 11 how many LINES. BAD.");
        WhoPrompts x = new WhoPrompts();
        x.line(123, 4, 5006);
        int[] expected = {1, 2, 3, 4, 5, 6, 50, 50, 16, 0, 0, 0};
        for (int what = 0; what < expected.length; what++) {
            due("of(0, " + what + ")", x.of(0, what), expected[what]);
        }
        for (int what : new int[] {-1, 12, HIGH, LOW}) {
            due("of(0, " + what + ")", x.of(0, what), -1);
        }
    }

    private static void howManyJumpsFromALine() {
        says(8, "9 how many JUMPS from it");
        WhoPrompts full = alike(20);
        due("from the first: not itself, not the next", full.of(0, 9), 18);
        due("from the last but one", full.of(18, 9), 18);
        due("from the last: not itself", full.of(19, 9), 19);
        WhoPrompts x = play(1, 22);
        due("none", x.of(0, 9), 0);
        due("none to itself", x.of(1, 9), 0);
    }

    private static void howManyLinesOfAPart() {
        says(8, "11 how many LINES");
        WhoPrompts x = alike(20);
        due("all", x.of(0, 11), 20);
        due("none", x.of(1, 11), 0);
        due("none of the last PART", x.of(5, 11), 0);
        due("without LINES", new WhoPrompts().of(0, 11), 0);
    }

    private static void numbersOf() {
        says(8, "BAD (-1): no such number, or it is not as said");
        WhoPrompts x = alike(3);
        for (int what = 0; what < 10; what++) {
            due("the last LINE, " + what, Math.min(0, x.of(2, what)), 0);
            for (int number : new int[] {-1, 3, HIGH, LOW}) {
                due("of(" + number + ", " + what + ")", x.of(number, what), -1);
            }
        }
        for (int what = 10; what < 12; what++) {
            due("the last PART, " + what, x.of(5, what), 0);
            for (int number : new int[] {-1, 6, HIGH, LOW}) {
                due("of(" + number + ", " + what + ")", x.of(number, what), -1);
            }
        }
        WhoPrompts full = alike(20);
        due("LINE 19", full.of(19, 3), 1);
        due("LINE 20", full.of(20, 3), -1);
    }

    // ---- promise 9

    private static void rehearsedToAHundred() {
        says(9, "A LINE is rehearsed in deed, an EVENING: HELD then.");
        int[][] heldGainThen = {{50, 49, 99}, {50, 50, 100}, {50, 51, 100}, {0, 100, 100}, {0, 99, 99}, {100, 100, 100},
            {100, 0, 100}, {99, 1, 100}, {99, 2, 100}, {0, 0, 0}};
        for (int[] t : heldGainThen) {
            WhoPrompts x = alike(1);
            x.mend(0, 0, t[0]);
            law(x, 1, String.valueOf(t[1]));
            due("HELD " + t[0] + " and " + t[1], x.rehearse(0), t[2]);
            due("it is so", x.of(0, 6), t[2]);
        }
    }

    private static void rehearsedLine() {
        says(9, "BAD. (No CHANGE.)");
        WhoPrompts x = new WhoPrompts();
        due("no LINE", x.rehearse(0), -1);
        x.line(0, 1, 0);
        x.line(0, 1, 0);
        due("the last", x.rehearse(1), 66);
        for (int line : new int[] {-1, 2, HIGH, LOW}) {
            due("rehearse(" + line + ")", x.rehearse(line), -1);
        }
        due("no CHANGE", x.count(2), 0);
        due("none to undo", x.undo(), -5);
        due("HELD stays", x.of(1, 6), 66);
        due("the other's too", x.of(0, 6), 50);
    }
}
