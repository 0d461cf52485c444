import java.io.IOException;
import java.nio.file.Files;
import java.nio.file.Path;

/**
 * The sentences of the document that name no boundary case (those have the Boundary tests), in the
 * document's order, each quoted, with answers worked out by hand.
 */
public final class DocumentTest extends TestBase {
    private static final int CUES = 0, HOLDS = 1, JUMPS = 2, PROMPTS = 3;

    public static void main(String[] args) throws IOException {
        linesAsTheyCome();
        pauseAndWait();
        oneOfAText();
        orAboveAnd();
        sums();
        products();
        operands();
        names();
        nextOne();
        aheadOfEachLine();
        jumpedOrDried();
        behindAJump();
        harm();
        bodiesOfActs();
        whoseBody();
        fromPlaceOn();
        answersByName();
        memoryIsTheClassesOwn();
        headings();
        formOfALine();
        ofALine();
        C.finish();
    }

    // ---- 1: lines, laws

    private static void linesAsTheyCome() {
        says(2, "======== 1 LINES 0 ..");
        says(2, "19, as they come");
        WhoPrompts x = new WhoPrompts();
        for (int k = 0; k < 20; k++) {
            due("the line that comes behind " + k, x.line(k, 1 + k, 1000 * k), k);
        }
        for (int k = 0; k < 20; k++) {
            due("CUE of LINE " + k, x.of(k, 1), k / 10);
            due("LAST WORD of LINE " + k, x.of(k, 2), k % 10);
            due("LONG of LINE " + k, x.of(k, 3), 1 + k);
            due("TELLS of LINE " + k, x.of(k, 4), k);
        }
    }

    private static void pauseAndWait() {
        says(7, "ahead of each of its LINES, meant");
        WhoPrompts x = play(1, 112, 23);
        law(x, 0, "100");
        x.mend(0, 1, 4);
        x.night(0);
        due("LINES 0 and 2 of PART 0 pause", x.told(1), 3 + 2 * 4);
        says(6, "how long the prompter waits");
        law(x, 0, "0");
        x.set(0, 7);
        x.night(0);
        due("each of three is waited for", x.told(1), 3 + 2 * 4 + 3 * 7);
    }

    private static void knowsBy(String[] texts, int... worths) {
        for (int k = 0; k < texts.length; k++) {
            WhoPrompts x = alike(1);
            due(texts[k] + " is a TEXT", law(x, 0, texts[k]), 1);
            due("KNOWS by " + texts[k], x.of(0, 7), worths[k]);
            due("GAINS by it: no LAW 1 yet", x.of(0, 8), 16);
            law(x, 1, texts[k]);
            due("GAINS by " + texts[k], x.of(0, 8), worths[k]);
        }
    }

    private static void oneOfAText() {
        says(5, "One: E, or E ? E (what counts if the first is not 0).");
        knowsBy(new String[] {"5", "2?9", "0?9", "-1?4", "0?5;7", "0?5;1?6;7", "8;9", "1|0?2+3", "0&1?2+3;4<5"},
            5, 9, 0, 4, 7, 6, 8, 5, 1);
    }

    private static void orAboveAnd() {
        says(5, "E = A { | A }. A = B { & B }.");
        knowsBy(new String[] {"1|0&0", "0&0|1", "(1|0)&0", "0&(0|1)", "2&3=3", "0|0|5", "1&2&3", "1&0&3", "0|2<3"},
            1, 1, 0, 0, 1, 1, 1, 0, 1);
    }

    private static void sums() {
        says(5, "S = P { + P, - P }.");
        knowsBy(new String[] {"10-3-2", "10-3+2", "10-(3-2)", "2+3*4", "2*3+4", "1+2<2+2", "9-4>4", "1+2=3"},
            5, 9, 9, 14, 10, 1, 1, 1);
    }

    private static void products() {
        says(5, "P = O { * O, / O, % O }.");
        knowsBy(new String[] {"60/5/2", "60/5*2", "60/(5*2)", "50%7*3", "7*9%5", "7*(9%5)", "99%50/7"},
            6, 24, 6, 3, 3, 28, 7);
    }

    private static void operands() {
        says(5, "a NAME, ! O, - O, ( E ).");
        knowsBy(new String[] {"!0+5", "!0*3", "!7+5", "-2*3+9", "-2+9", "!!7", "--5", "-!-0+4", "-(2-9)", "!(0|0)+2",
            "(1<2)=1", "!h<1", "3--2", "3*-2+9", "((4))"}, 6, 3, 5, 3, 7, 1, 5, 3, 7, 3, 1, 1, 5, 3, 4);
    }

    private static void names() {
        says(5, "NAMES: h HELD, n NERVES, p the PART, i the LINE, l LONG, c how many other LINES have its CUE.");
        WhoPrompts x = play(0, 45);
        x.line(345, 17, 0);
        x.line(145, 1, 0);
        x.line(54, 1, 0);
        x.mend(2, 0, 41);
        x.set(1, 6);
        String letters = "hnpilc";
        int[] worths = {41, 6, 3, 2, 17, 2};
        for (int k = 0; k < worths.length; k++) {
            String name = letters.substring(k, k + 1);
            law(x, 0, name);
            law(x, 1, name);
            due("KNOWS by " + name, x.of(2, 7), worths[k]);
            due("GAINS by " + name, x.of(2, 8), worths[k]);
        }
        for (int letter = 0; letter < 256; letter++) {
            if (letters.indexOf(letter) < 0 && (letter < '0' || letter > '9')) {
                x.feed(letter);
                boolean opens = letter == '(' || letter == '!' || letter == '-';
                due("byte " + letter + " alone", x.law(0), opens ? -101 : -100);
            }
        }
    }

    // ---- 2: turns, nights

    private static void nextOne() {
        says(13, "A TURN behind a LINE i (that ends with its LAST WORD; behind none: LINE 0 is next): "
            + "the NEXT one is i + 1.");
        WhoPrompts x = play(90, 80, 70, 60);
        law(x, 0, "100");
        due("all are said", x.night(5), 4);
        for (int k = 0; k < 4; k++) {
            due("LINE said " + k, x.said(k, 0), k);
            due("RIGHT " + k, x.said(k, 1), 0);
        }
    }

    private static void aheadOfEachLine() {
        says(13, "ahead of each LINE that is to be said");
        // From SEED 0 the z give 48, 38, 75, 88.
        WhoPrompts x = alike(4);
        int[] drawn = {48, 38, 75, 88};
        for (int k = 0; k < 4; k++) {
            for (int j = 0; j < 4; j++) {
                x.mend(j, 0, j == k ? drawn[k] + 1 : 100);
            }
            due("one more than the " + k + "th", x.night(0), 4);
            due("RIGHT", x.said(k, 1), 0);
            x.mend(k, 0, drawn[k]);
            x.night(0);
            due("just the " + k + "th", x.said(k, 1), k == 0 ? 2 : 1);
        }
    }

    private static void jumpedOrDried() {
        says(13, "Else, if there are JUMPS from i: JUMPED to that j with the greatest HELD (of like ones the first). "
            + "Else DRIED: WAIT seconds go by and the NEXT one is said.");
        WhoPrompts x = play(91, 92, 13, 4);
        x.set(0, 3);
        law(x, 0, "0");
        due("0 DRIED, 2 by a jump, 3 DRIED", x.night(1), 3);
        int[][] due = {{0, 2}, {2, 1}, {3, 2}};
        for (int k = 0; k < due.length; k++) {
            due("which " + k, x.said(k, 0), due[k][0]);
            due("how " + k, x.said(k, 1), due[k][1]);
        }
        due("SECONDS: three LINES, twice WAIT", x.told(1), 3 + 2 * 3);
        due("JUMPS", x.told(2), 1);
        due("DRIED", x.told(4), 2);
    }

    // ---- 3: behind a jump, what to do

    private static void behindAJump() {
        says(11, "BEHIND a JUMP from i to j: LINES 0 to i are said, then j and all behind it in order: "
            + "FACTS (bits) that some LINE of this row needs, and none ahead of it in the row tells.");
        WhoPrompts x = new WhoPrompts();
        x.line(1, 1, 1000);
        x.line(22, 1, 2000);
        x.line(33, 1, 4008);
        x.line(14, 1, 8007);
        x.line(45, 1, 24);
        due("from 0 to 3: 1 and 2 tell nothing, 3 tells 8", x.behind(3), 2 + 4 + 16);
    }

    private static void harm() {
        says(19, "HARM: the sum over LINES of (100 less HELD) times "
            + "(LONG and how many JUMPS there are from the LINE ahead of it)");
        WhoPrompts x = new WhoPrompts();
        x.line(1, 5, 0);
        x.line(22, 7, 0);
        x.line(13, 2, 0);
        x.line(14, 3, 0);
        x.mend(1, 0, 90);
        x.mend(3, 0, 100);
        due("two JUMPS are from LINE 0", x.of(0, 9), 2);
        due("none is from LINE 1", x.of(1, 9), 0);
        due("HARM", x.evenings(0, -1), 50 * 5 + 10 * (7 + 2) + 50 * 2);
    }

    // ---- 4: acts, shelves

    /** A BODY of each KIND, so that its number n is its KIND. */
    private static void body(String words, int kind, int act, int worth, int... trace) {
        says(27, words);
        WhoPrompts x = new WhoPrompts();
        for (int k = 0; k < 8; k++) {
            x.body(k);
        }
        due("act(" + kind + ", " + act + ", 10)", x.act(kind, act, 10), worth);
        due("how many ran", x.count(4), trace.length);
        for (int k = 0; k < trace.length; k++) {
            due("trace(" + k + ")", x.trace(k), trace[k]);
        }
        due("no more", x.trace(trace.length), -1);
    }

    private static void bodiesOfActs() {
        body("BODIES of acts: CUES (an interface of TURN): 1 cues: x + n.", 2, CUES, 12, 1);
        body("TURN: 10 holds: cues(x) * 2.", 4, HOLDS, 34, 10, 20, 1);
        body("11 jumps: x ^ n.", 6, JUMPS, 12, 11);
        body("PROMPTS (of TURN): 2 prompts: holds(x) - jumps(1).", 3, PROMPTS, -34, 2, 41, 30, 10, 1, 40, 11);
        body("RIGHT: 20 cues: super.cues(x) + 3.", 1, CUES, 14, 20, 1);
        body("DRIED: 30 holds: -super.holds(x).", 2, HOLDS, -24, 30, 10, 1);
        body("JUMPED: 40 jumps: super.jumps(x) * 3.", 3, JUMPS, 27, 40, 11);
        body("41 holds: super.holds(x + 1).", 3, HOLDS, -28, 41, 30, 10, 1);
        body("PAUSED: 50 prompts: super.prompts(x) ^ 5.", 4, PROMPTS, 24, 50, 2, 10, 20, 1, 11);
        body("RINGED: 60 jumps: super.jumps(x) - cues(2).", 5, JUMPS, 38, 60, 40, 11, 1);
        body("61 prompts: super.prompts(x) + 1.", 5, PROMPTS, -36, 61, 2, 41, 30, 10, 1, 60, 40, 11, 1);
        body("SAVED: 70 cues: super.cues(x) * 2.", 6, CUES, 32, 70, 1);
        body("OTHERWISE: 80 holds: super.holds(x) + jumps(2).", 7, HOLDS, 71, 80, 10, 81, 70, 1, 11);
        body("81 cues: super.cues(x) - 1.", 7, CUES, 33, 81, 70, 1);
    }

    private static void whoseBody() {
        String own = "cues(..) and so on: the body of its own KIND, or of the next KIND above that has one";
        body(own, 6, HOLDS, 64, 10, 70, 1);
        body(own, 4, CUES, 17, 20, 1);
        body(own, 5, HOLDS, -32, 41, 30, 10, 1);
        body(own, 1, PROMPTS, 28, 2, 10, 20, 1, 11);
        String above = "super: from the KIND above the body's on.";
        body(above, 5, PROMPTS, -36, 61, 2, 41, 30, 10, 1, 60, 40, 11, 1);
        body(above, 7, PROMPTS, 65, 2, 80, 10, 81, 70, 1, 11, 11);
    }

    private static void fromPlaceOn() {
        says(3, "LINES FROM A ROW of shorts, from place i on: "
            + "by fives PART, CUE, LAST WORD, LONG, TELLS (NEEDS 0): n of them");
        WhoPrompts x = new WhoPrompts();
        shorts(x, 2, 9, 9, 5, 4, 3, 30, 255, 0, 1, 2, 3, 4, 1, 1, 1, 1, 1);
        due("two from place 2 on", x.lines(2, 2, 2), 2);
        int[][] due = {{5, 4, 3, 30, 255, 0, 50}, {0, 1, 2, 3, 4, 0, 50}};
        for (int line = 0; line < 2; line++) {
            for (int what = 0; what < 7; what++) {
                due("of(" + line + ", " + what + ")", x.of(line, what), due[line][what]);
            }
        }
        due("no third was asked for", x.count(0), 2);
    }

    private static void answersByName() {
        says(1, "BAD (-1)");
        due("BAD", WhoPrompts.BAD, -1);
        says(1, "NOT (-2): as told; FULL (-3); STATE (-5): as told; -11 to -14. VOID is -2000000000.");
        due("NOT", WhoPrompts.NOT, -2);
        due("FULL", WhoPrompts.FULL, -3);
        due("STATE", WhoPrompts.STATE, -5);
        due("VOID", WhoPrompts.VOID, -2000000000);
    }

    /** Led in turns, two objects must answer as each does alone. */
    private static void memoryIsTheClassesOwn() {
        says(1, "All memory is the class's own.");
        WhoPrompts x = alike(3);
        WhoPrompts y = play(1, 12);
        law(x, 0, "h/2");
        law(y, 0, "100");
        law(y, 1, "9");
        x.mend(0, 0, 80);
        x.mend(5, 1, 9);
        x.set(0, 0);
        y.set(1, 9);
        x.image();
        y.body(3);
        x.body(0);
        due("the other's law", y.of(0, 7), 100);
        due("its own", x.of(0, 7), 40);
        due("GAINS of the one without a LAW", x.of(0, 8), 6);
        due("y has no CHANGE", y.undo(), -5);
        due("y has no IMAGE", y.back(), -5);
        due("y's PAUSE", y.of(5, 10), 0);
        due("y's WAIT", y.set(0, 2), 2);
        due("x's NERVES", x.set(1, 0), 0);
        due("y's night", y.night(0), 2);
        due("x has none", x.told(0), -5);
        due("y's act", y.act(0, HOLDS, 1), -4);
        due("x has no TRACE", x.count(4), 0);
        y.row(0, 2, 3);
        due("x's SHELF holds nothing", x.put(0, 0, 1), -11);
        y.feed('h');
        due("x's TAPE", x.count(1), 0);
        due("x's CHANGES", x.count(2), 2);
    }

    // ---- what the interface says

    private static void headings() throws IOException {
        String source = Files.readString(Path.of("src/main/java/WhoPrompts.java"));
        String[] sections = {"the play", "jumps, ways back", "nights", "what to do", "acts, shelves"};
        String[] calls = {"line lines feed law set mend of rehearse", "jumps behind way", "night told said mean tape",
            "prompt evenings cut newspaper image back undo redo",
            "body act trace keep row put element shift taken count"};
        int at = 0;
        for (int k = 0; k < sections.length; k++) {
            says(2, "Ahead of the calls `" + calls[k].replace(" ", "`, `") + "` the interface says: ---- "
                + sections[k]);
            int heading = source.indexOf("// ---- " + sections[k] + "\n", at);
            C.holds("the class has the heading " + sections[k], heading >= at);
            at = Math.max(at, heading);
            for (String call : calls[k].split(" ")) {
                String type = call.equals("element") ? "long" : "int";
                int place = source.indexOf("public " + type + " " + call + "(", at);
                C.holds(call + " comes in its order behind " + sections[k], place > at);
                at = Math.max(at, place);
            }
        }
    }

    // ---- promises 2 and 8

    private static void formOfALine() {
        says(2, "A LINE (pcl: 100 PART, 10 CUE and LAST WORD; tn: 1000 TELLS and NEEDS): its number.");
        WhoPrompts x = new WhoPrompts();
        due("line(527, 19, 34056)", x.line(527, 19, 34056), 0);
        due("line(7, 1, 56)", x.line(7, 1, 56), 1);
        due("line(70, 1, 255000)", x.line(70, 1, 255000), 2);
        int[][] due = {{5, 2, 7, 19, 34, 56}, {0, 0, 7, 1, 0, 56}, {0, 7, 0, 1, 255, 0}};
        for (int line = 0; line < due.length; line++) {
            for (int what = 0; what < 6; what++) {
                due("of(" + line + ", " + what + ")", x.of(line, what), due[line][what]);
            }
        }
    }

    private static void ofALine() {
        says(8, "Of a LINE: 0 PART, 1 CUE, 2 LAST WORD, 3 LONG, 4 TELLS, 5 NEEDS, 6 HELD, 7 KNOWS, 8 GAINS, "
            + "9 how many JUMPS from it; of a PART: 10 PAUSE, 11 how many LINES.");
        WhoPrompts x = play(30, 100, 30);
        x.line(423, 12, 5006);
        x.mend(3, 0, 71);
        x.mend(4, 1, 8);
        x.set(1, 2);
        int[] due = {4, 2, 3, 12, 5, 6, 71, 65, 9, 2};
        for (int what = 0; what < due.length; what++) {
            due("of(3, " + what + ")", x.of(3, what), due[what]);
        }
        due("PAUSE of PART 4", x.of(4, 10), 8);
        due("LINES of PART 4", x.of(4, 11), 1);
        due("LINES of PART 0", x.of(0, 11), 2);
    }
}
