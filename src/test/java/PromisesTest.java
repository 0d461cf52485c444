/** A method for each promise: ordinary inputs, the edges that the document names, wrong inputs. */
public final class PromisesTest extends TestBase {
    public static void main(String[] args) {
        promise1NewObject();
        promise2Line();
        promise3Lines();
        promise4Feed();
        promise5Law();
        promise5Faults();
        promise6Set();
        promise7Mend();
        promise8Of();
        promise9Rehearse();
        promise10Jumps();
        promise11Behind();
        promise12Way();
        promise13Night();
        promise14Told();
        promise15Said();
        promise16Mean();
        promise17Tape();
        promise18Prompt();
        promise19Evenings();
        promise20Cut();
        promise21Newspaper();
        promise22And23ImageAndBack();
        promise24And25UndoAndRedo();
        promise26Body();
        promise27Act();
        promise28Trace();
        promise29Keep();
        promise30Row();
        promise31Put();
        promise32Element();
        promise33Shift();
        promise34Taken();
        promise35Count();
        C.finish();
    }

    private static void promise1NewObject() {
        WhoPrompts x = new WhoPrompts();
        for (int what = 0; what < 5; what++) {
            due("1 count(" + what + ")", x.count(what), 0);
        }
        due("1 set(0, 2) tells WAIT at first", x.set(0, 2), 2);
        due("1 set(1, 0) tells NERVES at first", x.set(1, 0), 0);
        due("1 of(0, 0)", x.of(0, 0), -1);
        for (int part = 0; part < 6; part++) {
            due("1 PAUSE of " + part, x.of(part, 10), 0);
            due("1 lines of " + part, x.of(part, 11), 0);
            due("1 shelf " + part, x.taken(part, 0), -11);
        }
        due("1 told(0)", x.told(0), -5);
        due("1 back()", x.back(), -5);
        due("1 trace(0)", x.trace(0), -1);
        new WhoPrompts().line(0, 1, 0);
        due("1 objects share nothing", x.count(0), 0);
    }

    private static void promise2Line() {
        WhoPrompts x = new WhoPrompts();
        due("2 line(599, 30, 255255)", x.line(599, 30, 255255), 0);
        due("2 line(0, 1, 0)", x.line(0, 1, 0), 1);
        due("2 line(123, 4, 5006)", x.line(123, 4, 5006), 2);
        int[] expected = {1, 2, 3, 4, 5, 6, 50};
        for (int what = 0; what < expected.length; what++) {
            due("2 of(2, " + what + ")", x.of(2, what), expected[what]);
        }
        int[][] wrong = {{-1, 1, 0}, {600, 1, 0}, {LOW, 1, 0}, {HIGH, 1, 0}, {0, 0, 0}, {0, 31, 0}, {0, LOW, 0},
            {0, HIGH, 0}, {0, 1, -1}, {0, 1, 256}, {0, 1, 999}, {0, 1, 256000}, {0, 1, LOW}, {0, 1, HIGH}};
        for (int[] w : wrong) {
            due("2 wrong line(" + w[0] + ", " + w[1] + ", " + w[2] + ")", x.line(w[0], w[1], w[2]), -1);
        }
        due("2 what is BAD adds none", x.count(0), 3);
        for (int k = 3; k < 20; k++) {
            due("2 line " + k, x.line(0, 1, 0), k);
        }
        due("2 the 21st", x.line(0, 1, 0), -3);
        due("2 BAD comes ahead of FULL", x.line(600, 1, 0), -1);
        due("2 20 are there", x.count(0), 20);
    }

    private static void promise3Lines() {
        WhoPrompts x = new WhoPrompts();
        shorts(x, 0, 9, 5, 9, 8, 30, 255, 0, 0, 0, 1, 0, 1, 1);
        due("3 from place 1", x.lines(0, 1, 12), 2);
        int[] expected = {5, 9, 8, 30, 255, 0, 50};
        for (int what = 0; what < expected.length; what++) {
            due("3 of(0, " + what + ")", x.of(0, what), expected[what]);
        }
        due("3 n is the bound", x.lines(0, 1, 1), 1);
        due("3 PART 9 is not as it may be", x.lines(0, 0, 1), 0);
        due("3 it ends within a five", x.lines(0, 11, 1), 0);
        due("3 behind its end", x.lines(0, 13, 1), 0);
        due("3 far behind its end", x.lines(0, HIGH, 12), 0);
        due("3 a shelf that holds nothing is missing", x.lines(1, 0, 3), 0);
        due("3 shelf -1", x.lines(-1, 0, 1), -1);
        due("3 shelf 6", x.lines(6, 0, 1), -1);
        for (int place : new int[] {-1, -4, -5, -6, LOW}) {
            due("3 no row, place " + place, x.lines(1, place, 1), 0);
            due("3 a row has no place " + place, x.lines(0, place, 12), 0);
        }
        due("3 none came from below 0", x.count(0), 3);
        due("3 n 0 where nothing is", x.lines(1, -1, 0), -1);
        due("3 n 13 where nothing is", x.lines(1, -1, 13), -1);
        due("3 shelf 6, place -1", x.lines(6, -1, 1), -1);
        due("3 n 0", x.lines(0, 0, 0), -1);
        due("3 n 13", x.lines(0, 0, 13), -1);
        x.row(1, 0, 5);
        due("3 bytes", x.lines(1, 0, 1), -12);
        due("3 bytes, place -1", x.lines(1, -1, 1), -12);
        x.body(0);
        x.keep(1, 0);
        due("3 a body", x.lines(1, 0, 1), -12);
        due("3 a body, place -1", x.lines(1, -1, 1), -12);
        due("3 BAD ahead of -12", x.lines(1, 0, 13), -1);
        int[][] notSo = {{6, 0, 0, 1, 0}, {-1, 0, 0, 1, 0}, {0, 10, 0, 1, 0}, {0, -1, 0, 1, 0}, {0, 0, 10, 1, 0},
            {0, 0, -1, 1, 0}, {0, 0, 0, 0, 0}, {0, 0, 0, 31, 0}, {0, 0, 0, 1, 256}, {0, 0, 0, 1, -1}};
        for (int[] five : notSo) {
            shorts(x, 2, 0, 0, 0, 1, 0, five[0], five[1], five[2], five[3], five[4], 0, 0, 0, 1, 0);
            due("3 those ahead came", x.lines(2, 0, 3), 1);
        }
        due("3 so many came", x.count(0), 13);
        for (int k = 13; k < 18; k++) {
            x.line(0, 1, 0);
        }
        shorts(x, 2, 0, 0, 0, 1, 0, 0, 0, 0, 1, 0, 0, 0, 0, 1, 0);
        due("3 until FULL", x.lines(2, 0, 3), 2);
        due("3 FULL", x.lines(2, 0, 3), 0);
        due("3 20 then", x.count(0), 20);
    }

    private static void promise4Feed() {
        WhoPrompts x = new WhoPrompts();
        due("4 feed(-1)", x.feed(-1), -1);
        due("4 feed(256)", x.feed(256), -1);
        due("4 feed(0)", x.feed(0), 1);
        due("4 feed(255)", x.feed(255), 2);
        for (int k = 3; k <= 120; k++) {
            due("4 feed " + k, x.feed('1'), k);
        }
        due("4 the 121st", x.feed('1'), -3);
        due("4 BAD ahead of FULL", x.feed(256), -1);
        due("4 120 are there", x.count(1), 120);
    }

    private static WhoPrompts threeLines() {
        WhoPrompts x = new WhoPrompts();
        x.line(123, 7, 0);
        x.line(425, 9, 0);
        x.line(23, 1, 0);
        x.set(1, 4);
        x.mend(1, 0, 60);
        return x;
    }

    private static void promise5Law() {
        Object[][] worths = {
            {"h", 60}, {"n", 4}, {"p", 4}, {"i", 1}, {"l", 9}, {"c", 2}, {"7", 7}, {"0042", 42},
            {"2+3*4", 14}, {"(2+3)*4", 20}, {"20-5-5", 10}, {"80/5/4", 4}, {"17%5", 2}, {"-17%5+9", 7},
            {"-7/2+9", 6}, {"5/0+3", 3}, {"5%0+3", 3}, {"--5", 5}, {"!0", 1}, {"!7", 0}, {"!!7", 1}, {"-!0+3", 2},
            {"-(2-5)", 3}, {"2<3", 1}, {"3<2", 0}, {"3=3", 1}, {"3>2", 1}, {"2>3", 0}, {"1+1=2", 1},
            {"5|0", 1}, {"0|0", 0}, {"5&3", 1}, {"5&0", 0}, {"0&0|7", 1}, {"7|0&0", 1}, {"(7|0)&0", 0},
            {"1<2&2<3", 1}, {"0?5;6", 6}, {"2?5;6", 5}, {"0?5", 0}, {"0?5;0?6", 0}, {"0?5;1?6;7", 6}, {"8;9", 8},
            {"h>59?33;44", 33}, {"h>60?33;44", 44}, {"0?1;2?3", 3}, {"5;1?6", 5}, {"999", 100}, {"-5", 0},
            {"9999*9999*99", 100}, {"9999*9999*22", 0}, {"!(1-1)*5", 5}, {"2*-3+9", 3}, {"2--3", 5},
            {"((((((5))))))", 5}, {"!!!!!!5", 1}, {"(h)+(n)-(p)", 60},
            {"-(-(-2))+5", 3}, {"(1<2)<3", 1}, {"1?2<3|0;4", 1}};
        for (Object[] w : worths) {
            WhoPrompts x = threeLines();
            due("5 law(0) of " + w[0], law(x, 0, (String) w[0]), 1);
            due("5 KNOWS by " + w[0], x.of(1, 7), (Integer) w[1]);
        }
        WhoPrompts x = threeLines();
        law(x, 0, "n<5");
        due("5 law(1)", law(x, 1, "h+i"), 1);
        due("5 GAINS by h+i", x.of(1, 8), 61);
        due("5 law(1) leaves law 0", x.of(1, 7), 1);
        law(x, 1, "-3");
        due("5 GAINS not below 0", x.of(1, 8), 0);
        law(x, 1, "101");
        due("5 GAINS not above 100", x.of(1, 8), 100);
        x.feed('7');
        due("5 law(2)", x.law(2), -1);
        due("5 law(-1)", x.law(-1), -1);
        due("5 THE TAPE stays", x.count(1), 1);
        due("5 law(0) of it", x.law(0), 1);
        due("5 THE TAPE is empty then", x.count(1), 0);
        due("5 a fault", law(x, 0, "8+"), -102);
        due("5 the law stays as it was", x.of(1, 7), 7);
        StringBuilder text = new StringBuilder("h");
        while (text.length() < 119) {
            text.append("+1");
        }
        due("5 a text of 119 bytes", law(x, 0, text.toString()), 1);
        due("5 its worth", x.of(0, 7), 100);
        due("5 a text of 120 bytes that ends too early", law(x, 0, text + ";"), -220);
        due("5 a text of 120 bytes", law(x, 0, "-" + text), 1);
        due("5 -50 and 59", x.of(0, 7), 9);
        due("5 it stands still", x.of(2, 7), 9);
    }

    private static void promise5Faults() {
        WhoPrompts x = new WhoPrompts();
        Object[][] faults = {{"", 0}, {"q", 0}, {" h", 0}, {"h ", 1}, {"hn", 1}, {"h1", 1}, {"1h", 1}, {"12345", 4},
            {"1+12345", 6}, {"h+", 2}, {"h?", 2}, {"h?1?2", 3}, {"(h?1)", 2}, {"(h;1)", 2}, {"h;", 2}, {";h", 0},
            {"h;;h", 2}, {"1<2<3", 3}, {"1<2=3", 3}, {"1=2>3&4", 3}, {"1<2&3<4>5", 7}, {"(1<2<3)", 4}, {"()", 1},
            {"(h", 2}, {"h)", 1}, {"(h))", 3}, {"*h", 0}, {"+1", 0}, {"1+*2", 2}, {"!", 1}, {"-", 1}, {"h!", 1},
            {"h(", 1}, {"h~1", 1}, {"~1", 0}, {"(((((((h", 6}, {"!!!!!!!h", 6}, {"-------1", 6}, {"(!-(!-(h", 6},
            {"((((((h)-(h)))-(h)))+!!!!!!!h", 26}, {"!!!!!!h+!!!!!!h", -1}, {"!!!(((h)))-(((!!!h)))", -1},
            {"((((((-h", 6}, {"((((((h-h))))))", -1}, {"h<", 2}, {"1;2?", 4}, {"?1", 0}, {"1?;", 2},
            {"h" + (char) 0, 1}, {"" + (char) 255, 0}, {"H", 0}, {"(((((1)))))|((((((1))))))", -1}};
        for (Object[] f : faults) {
            int place = (Integer) f[1];
            due("5 the fault of " + f[0], law(x, 0, (String) f[0]), place < 0 ? 1 : -100 - place);
            due("5 THE TAPE is empty behind a fault", x.count(1), 0);
        }
    }

    private static void promise6Set() {
        WhoPrompts x = play(0);
        due("6 set(0, 9)", x.set(0, 9), 2);
        due("6 set(0, 0)", x.set(0, 0), 9);
        due("6 set(1, 9)", x.set(1, 9), 0);
        due("6 KNOWS", x.of(0, 7), 23);
        due("6 set(1, 0)", x.set(1, 0), 9);
        int[][] wrong = {{0, -1}, {0, 10}, {1, -1}, {1, 10}, {2, 0}, {-1, 0}, {LOW, 5}, {HIGH, 5}, {0, LOW}, {1, HIGH}};
        for (int[] w : wrong) {
            due("6 wrong set(" + w[0] + ", " + w[1] + ")", x.set(w[0], w[1]), -1);
        }
        due("6 BAD changes nothing", x.set(0, 0) + x.set(1, 0), 0);
        due("6 no CHANGE", x.count(2), 0);
    }

    private static void promise7Mend() {
        WhoPrompts x = play(0, 100);
        due("7 HELD", x.mend(1, 0, 100), 50);
        due("7 HELD again", x.mend(1, 0, 0), 100);
        due("7 HELD then", x.of(1, 6), 0);
        due("7 the other's", x.of(0, 6), 50);
        due("7 PAUSE", x.mend(5, 1, 9), 0);
        due("7 PAUSE again", x.mend(5, 1, 3), 9);
        due("7 PAUSE then", x.of(5, 10), 3);
        int[][] wrong = {{2, 0, 5}, {-1, 0, 5}, {0, 0, -1}, {0, 0, 101}, {6, 1, 5}, {-1, 1, 5}, {0, 1, -1}, {0, 1, 10},
            {0, 2, 0}, {0, -1, 0}, {LOW, 0, 0}, {HIGH, 1, 0}};
        for (int[] w : wrong) {
            due("7 wrong mend(" + w[0] + ", " + w[1] + ", " + w[2] + ")", x.mend(w[0], w[1], w[2]), -1);
        }
        due("7 four changes", x.count(2), 4);
        due("7 HELD to the same", x.mend(1, 0, 0), 0);
        due("7 PAUSE to the same", x.mend(5, 1, 3), 3);
        due("7 what stays as it was is no CHANGE", x.count(2), 4);
    }

    private static void promise8Of() {
        WhoPrompts x = new WhoPrompts();
        x.line(312, 17, 3004);
        x.line(122, 8, 0);
        x.line(325, 9, 0);
        x.line(311, 9, 0);
        int[] expected = {3, 1, 2, 17, 3, 4, 50, 44, 16, 1};
        x.set(1, 2);
        for (int what = 0; what < expected.length; what++) {
            due("8 of(0, " + what + ")", x.of(0, what), expected[what]);
        }
        due("8 LINES of PART 3", x.of(3, 11), 3);
        due("8 LINES of PART 0", x.of(0, 11), 0);
        due("8 PAUSE", x.of(3, 10), 0);
        x.mend(0, 0, 3);
        due("8 KNOWS not below 0", x.of(0, 7), 0);
        x.mend(0, 0, 99);
        due("8 GAINS is cut", x.of(0, 8), 0);
        int[][] wrong = {{4, 0}, {-1, 0}, {0, -1}, {0, 12}, {6, 10}, {-1, 10}, {6, 11}, {-1, 11}, {LOW, 7}, {HIGH, 8},
            {4, 9}, {0, HIGH}, {0, LOW}};
        for (int[] w : wrong) {
            due("8 wrong of(" + w[0] + ", " + w[1] + ")", x.of(w[0], w[1]), -1);
        }
    }

    private static void promise9Rehearse() {
        WhoPrompts x = play(0, 0);
        due("9 once", x.rehearse(0), 66);
        due("9 twice", x.rehearse(0), 77);
        due("9 the other's HELD", x.of(1, 6), 50);
        due("9 no CHANGE", x.count(2), 0);
        law(x, 1, "30");
        due("9 HELD 100 at most", x.rehearse(0), 100);
        due("9 still", x.rehearse(0), 100);
        law(x, 1, "0-30");
        due("9 never less", x.rehearse(1), 50);
        due("9 rehearse(2)", x.rehearse(2), -1);
        due("9 rehearse(-1)", x.rehearse(-1), -1);
        due("9 rehearse(MAX)", x.rehearse(HIGH), -1);
    }

    private static void promise10Jumps() {
        // Cue and last word: 0 11, 1 12, 2 11, 3 21, 4 99
        WhoPrompts x = play(11, 12, 11, 21, 99);
        int[] all = {2, 103, 200, 201, 300, 301, 302};
        due("10 how many", x.jumps(0, -1), all.length);
        for (int k = 0; k < all.length; k++) {
            due("10 jumps(0, " + k + ")", x.jumps(0, k), all[k]);
        }
        int[] rings = {200, 201, 300, 301, 302};
        due("10 how many RINGS", x.jumps(1, -1), rings.length);
        for (int k = 0; k < rings.length; k++) {
            due("10 jumps(1, " + k + ")", x.jumps(1, k), rings[k]);
        }
        int[][] wrong = {{0, 7}, {1, 5}, {0, -2}, {1, -2}, {2, -1}, {-1, -1}, {0, HIGH}, {0, LOW}, {HIGH, 0}};
        for (int[] w : wrong) {
            due("10 wrong jumps(" + w[0] + ", " + w[1] + ")", x.jumps(w[0], w[1]), -1);
        }
        WhoPrompts full = new WhoPrompts();
        for (int k = 0; k < 20; k++) {
            full.line(0, 1, 0);
        }
        due("10 all alike", full.jumps(0, -1), 20 * 19 - 19);
        due("10 the last of them", full.jumps(0, 360), 1918);
        due("10 RINGS of all alike", full.jumps(1, -1), 190);
        due("10 none without lines", new WhoPrompts().jumps(0, 0), -1);
    }

    private static void promise11Behind() {
        WhoPrompts x = new WhoPrompts();
        x.line(1, 1, 1000);
        x.line(20, 1, 2001);
        x.line(10, 1, 4008);
        x.line(10, 1, 16018);
        x.line(0, 1, 23);
        due("11 over two lines", x.behind(3), 2 | 16 | 4);
        due("11 a ring", x.behind(200), 8 | 16);
        due("11 to the last", x.behind(204), 8 | 16);
        due("11 over one line", x.behind(2), 8 | 2 | 16);
        due("11 no JUMP: itself", x.behind(202), -2);
        due("11 no JUMP: the next", x.behind(1), -2);
        due("11 no JUMP: another word", x.behind(102), -2);
        for (int wrong : new int[] {-1, 5, 500, 505, 20, LOW, HIGH}) {
            due("11 wrong behind(" + wrong + ")", x.behind(wrong), -1);
        }
        WhoPrompts own = new WhoPrompts();
        own.line(0, 1, 0);
        own.line(0, 1, 0);
        own.line(0, 1, 1001);
        due("11 what it tells itself is not ahead", own.behind(2), 1);
    }

    private static void promise12Way() {
        WhoPrompts x = play(1, 12, 23, 31, 12, 25, 53, 38);
        due("12 on to 3", x.way(3, -1), 3);
        for (int k = 0; k < 3; k++) {
            due("12 on to 3, " + k, x.way(3, k), k + 1);
        }
        due("12 none such", x.way(3, 3), -1);
        due("12 to itself, round", x.way(101, -1), 3);
        due("12 to itself, the end", x.way(101, 2), 1);
        due("12 from 0 to 7 by jumps", x.way(7, -1), 3);
        due("12 the first row by numbers", x.way(7, 0), 1);
        due("12 then", x.way(7, 1), 2);
        due("12 at last", x.way(7, 2), 7);
        due("12 no way", x.way(700, -1), -2);
        due("12 no way, k 0", x.way(700, 0), -2);
        for (int wrong : new int[] {-1, 8, 800, 808, LOW, HIGH}) {
            due("12 wrong way(" + wrong + ", -1)", x.way(wrong, -1), -1);
        }
        due("12 k -2", x.way(3, -2), -1);
        due("12 k -2 where no way is", x.way(700, -2), -1);
        // There are jumps from 0 and from 1 to 4, but 4 needs what only 3 tells.
        WhoPrompts y = new WhoPrompts();
        y.line(10, 1, 0);
        y.line(20, 1, 0);
        y.line(3, 1, 0);
        y.line(31, 1, 1000);
        y.line(0, 1, 1);
        due("12 not to 4 ahead of 3", y.way(204, -1), 2);
        due("12 by the line that tells", y.way(204, 0), 3);
        due("12 over a need", y.way(4, -1), 3);
        WhoPrompts z = new WhoPrompts();
        z.line(0, 1, 0);
        z.line(0, 1, 1001);
        due("12 what it tells itself is not told by then", z.way(1, -1), -2);
        WhoPrompts ahead = new WhoPrompts();
        ahead.line(0, 1, 2);
        ahead.line(0, 1, 2000);
        due("12 what stands ahead of i is told", ahead.way(100, -1), 1);
    }

    private static void promise13Night() {
        WhoPrompts x = new WhoPrompts();
        due("13 no lines", x.night(1), -5);
        due("13 no night then", x.told(0), -5);
        x = play(0, 0, 0);
        law(x, 0, "100");
        due("13 all right", x.night(5), 3);
        law(x, 0, "0");
        // 0 dries; then 0 jumps to 2, the last one.
        due("13 nothing right", x.night(5), 2);
        x.mend(0, 0, 60);
        WhoPrompts round = play(0, 0, 0, 11);
        law(round, 0, "0");
        round.mend(3, 0, 100);
        // From 0 to 2 (3 has another cue), from 2 to 0, and so on: 60 at most.
        due("13 60 at most", round.night(0), 60);
        due("13 round and round", round.said(59, 0), 2);
        due("13 of like ones the first", round.said(2, 0), 0);
        // z = 12345: (z >>> 8) % 100 = 48 for SEED 0.
        WhoPrompts edge = play(0);
        edge.mend(0, 0, 48);
        edge.night(0);
        due("13 48 is not below 48", edge.said(0, 1), 2);
        edge.mend(0, 0, 49);
        edge.night(0);
        due("13 48 is below 49", edge.said(0, 1), 0);
        due("13 a SEED below 0", edge.night(LOW), 1);
    }

    private static void promise14Told() {
        WhoPrompts x = new WhoPrompts();
        due("14 BAD ahead of STATE", x.told(5), -1);
        due("14 told(-1)", x.told(-1), -1);
        due("14 STATE", x.told(4), -5);
        x.line(0, 5, 0);
        x.line(102, 7, 3);
        x.line(203, 11, 0);
        x.line(0, 13, 1000);
        law(x, 0, "0");
        x.mend(0, 1, 4);
        x.mend(1, 1, 9);
        x.set(0, 3);
        // 0 dries; from 0 there are jumps to 2 and 3 (of like ones the first); 2 has none: 3 dries.
        due("14 night", x.night(9), 3);
        int[] which = {0, 2, 3};
        for (int k = 0; k < 3; k++) {
            due("14 said(" + k + ", 0)", x.said(k, 0), which[k]);
        }
        int[] expected = {3, (4 + 5 + 3) + 11 + (4 + 13 + 3), 1, 0, 2};
        for (int what = 0; what < 5; what++) {
            due("14 told(" + what + ")", x.told(what), expected[what]);
        }
        x.set(0, 9);
        x.mend(0, 1, 0);
        x.line(0, 1, 0);
        x.mean(3, 5, 0);
        due("14 THE NIGHT stays as it was", x.told(1), expected[1]);
        due("14 also its lines", x.told(0), 3);
    }

    private static void promise15Said() {
        WhoPrompts x = new WhoPrompts();
        due("15 STATE", x.said(0, 0), -5);
        due("15 BAD ahead of STATE", x.said(0, 3), -1);
        due("15 k below 0 ahead of STATE", x.said(-1, 0), -1);
        for (int k : new int[] {1, 59, 60, 61, HIGH}) {
            due("15 no NIGHT, k " + k, x.said(k, 2), -5);
            due("15 no NIGHT, what 3, k " + k, x.said(k, 3), -1);
        }
        due("15 k far below 0 ahead of STATE", x.said(LOW, 2), -1);
        x.line(11, 1, 1007);
        x.line(12, 1, 2003);
        x.line(13, 1, 4007);
        law(x, 0, "i=0|i=2?100;0");
        due("15 night", x.night(4), 2);
        int[][] expected = {{0, 0, 7}, {2, 1, 6}};
        for (int k = 0; k < 2; k++) {
            for (int what = 0; what < 3; what++) {
                due("15 said(" + k + ", " + what + ")", x.said(k, what), expected[k][what]);
            }
        }
        due("15 LACKS", x.told(3), 2);
        due("15 behind the last said", x.said(2, 0), -1);
        due("15 said(60, 0)", x.said(60, 0), -1);
        due("15 said(MAX, 0)", x.said(HIGH, 0), -1);
        due("15 said(0, -1)", x.said(0, -1), -1);
        due("15 said(0, 3)", x.said(0, 3), -1);
        x.mend(2, 0, 0);
        x.mend(1, 0, 100);
        law(x, 0, "0");
        x.night(4);
        due("15 DRIED at first", x.said(0, 1), 2);
    }

    private static void promise16Mean() {
        WhoPrompts x = new WhoPrompts();
        due("16 STATE", x.mean(1, 1, 0), -5);
        due("16 BAD ahead of STATE", x.mean(1, 0, 0), -1);
        x.line(1, 5, 1000);
        x.line(110, 4, 2001);
        x.line(3, 7, 4000);
        x.line(110, 6, 6);
        int[][] wrong = {{0, 0}, {21, 0}, {-1, 0}, {1, 5}, {1, -1}, {HIGH, 0}, {LOW, 0}};
        for (int[] w : wrong) {
            due("16 wrong mean(1, " + w[0] + ", " + w[1] + ")", x.mean(1, w[0], w[1]), -1);
        }
        x.night(77);
        for (int what = 0; what < 5; what++) {
            due("16 of one night, " + what, x.mean(77, 1, what), x.told(what));
        }
        // Without anything to be missed, z goes on by as many steps as there are lines.
        WhoPrompts y = play(0);
        y.mend(0, 0, 49);
        int z = 0;
        int dried = 0;
        for (int k = 0; k < 20; k++) {
            z = z * 1103515245 + 12345;
            dried += (z >>> 8) % 100 < 49 ? 0 : 1;
        }
        y.set(0, 9);
        due("16 z goes on, cut", y.mean(0, 20, 1), (20 + 9 * dried) / 20);
        due("16 DRIED, cut", y.mean(0, 20, 4), dried / 20);
        due("16 keeps no night", y.told(0), -5);
    }

    private static void promise17Tape() {
        WhoPrompts x = play(11, 12, 11, 21, 99);
        due("17 nothing there", x.tape(0, 0), -11);
        due("17 shelf 6", x.tape(6, 0), -1);
        due("17 shelf -1", x.tape(-1, 1), -1);
        due("17 what 2 ahead of -11", x.tape(0, 2), -1);
        due("17 what -1", x.tape(0, -1), -1);
        x.row(0, 4, 3);
        due("17 booleans", x.tape(0, 0), -12);
        x.body(0);
        x.keep(0, 0);
        due("17 a body", x.tape(0, 1), -12);
        bytes(x, 0);
        due("17 empty", x.tape(0, 0), -2);
        due("17 empty, no jumps", x.tape(0, 1), 0);
        bytes(x, 0, 0, 1, 2, 3, 4);
        due("17 in order", x.tape(0, 0), -2);
        due("17 in order, no jumps", x.tape(0, 1), 0);
        bytes(x, 0, 0, 2, 0, 1, 3, 2, 3, 4);
        due("17 with jumps", x.tape(0, 0), -2);
        due("17 how many", x.tape(0, 1), 4);
        int[][] cannot = {{1}, {-1}, {0, 0}, {0, 1, 2, 4}, {0, 1, 2, 3, 4, 5}, {0, 1, 0}, {0, 3}, {0, 1, -1}, {0, 1, 2, 3, 4, 0}};
        int[] place = {0, 0, 1, 3, 5, 2, 1, 2, 5};
        for (int k = 0; k < cannot.length; k++) {
            bytes(x, 0, cannot[k]);
            due("17 the " + k + "-th that can't be", x.tape(0, 0), place[k]);
            due("17 the " + k + "-th, its jumps", x.tape(0, 1), -5);
        }
        WhoPrompts none = new WhoPrompts();
        bytes(none, 0, 0);
        due("17 without lines", none.tape(0, 0), 0);
    }

    private static void promise18Prompt() {
        WhoPrompts x = play(0, 0, 100);
        due("18 without a PAUSE", x.prompt(0, 0), 0);
        due("18 its sum", x.prompt(0, 1), 0);
        x.mend(0, 1, 3);
        x.mend(0, 0, 80);
        x.mend(1, 0, 60);
        // WAIT 0: 5 * 140 = 700; WAIT 3: 60 * 3 = 180.
        due("18 waits the PAUSE out", x.prompt(0, 0), 3);
        due("18 that sum", x.prompt(0, 1), 180);
        x.mend(0, 0, 0);
        x.mend(1, 0, 0);
        due("18 knows nothing", x.prompt(0, 0), 0);
        due("18 sum 0", x.prompt(0, 1), 0);
        x.mend(2, 0, 100);
        x.mend(1, 1, 9);
        due("18 all known: only the PAUSE counts", x.prompt(1, 0), 9);
        due("18 no cost then", x.prompt(1, 1), 0);
        // (100 - K) * 9 = 5 * K nearly: K 64 gives 324 against 320, K 65 gives 315 against 325.
        x.mend(2, 0, 64);
        due("18 just not", x.prompt(1, 0), 0);
        due("18 just not, sum", x.prompt(1, 1), 320);
        x.mend(2, 0, 65);
        due("18 just so", x.prompt(1, 0), 9);
        due("18 just so, sum", x.prompt(1, 1), 315);
        x.mend(2, 0, 50);
        x.mend(1, 1, 5);
        due("18 like ones: the least", x.prompt(1, 0), 0);
        due("18 a PART without lines", x.prompt(5, 1), 0);
        int[][] wrong = {{6, 0}, {-1, 0}, {0, 2}, {0, -1}, {HIGH, 0}, {LOW, 1}};
        for (int[] w : wrong) {
            due("18 wrong prompt(" + w[0] + ", " + w[1] + ")", x.prompt(w[0], w[1]), -1);
        }
    }

    private static void promise19Evenings() {
        WhoPrompts x = new WhoPrompts();
        due("19 STATE", x.evenings(1, -1), -5);
        due("19 BAD ahead of STATE", x.evenings(31, -1), -1);
        x.line(1, 10, 0);
        x.line(22, 10, 0);
        x.line(12, 10, 0);
        // From 0 there is a JUMP to 2, from 2 one to 1; weights 10, 11, 10.
        due("19 HARM as it is", x.evenings(0, -1), 50 * 31);
        due("19 none rehearsed", x.evenings(0, 1), 0);
        due("19 once", x.evenings(1, 1), 1);
        due("19 HARM after one", x.evenings(1, -1), 50 * 31 - 16 * 11);
        due("19 then of like ones the first", x.evenings(2, 0), 1);
        due("19 not the later one", x.evenings(2, 2), 0);
        due("19 three", x.evenings(3, 2), 1);
        due("19 in thought", x.of(1, 6), 50);
        int sum = 0;
        for (int line = 0; line < 3; line++) {
            sum += x.evenings(30, line);
        }
        due("19 30 in all", sum, 30);
        law(x, 1, "0");
        due("19 nothing gained: the first", x.evenings(7, 0), 7);
        due("19 HARM stays", x.evenings(7, -1), 50 * 31);
        law(x, 1, "h<70?60;1");
        due("19 HELD 100 at most", x.evenings(3, -1), 0);
        int[][] wrong = {{-1, -1}, {31, -1}, {0, -2}, {0, 3}, {HIGH, 0}, {LOW, 0}, {5, HIGH}};
        for (int[] w : wrong) {
            due("19 wrong evenings(" + w[0] + ", " + w[1] + ")", x.evenings(w[0], w[1]), -1);
        }
    }

    private static void promise20Cut() {
        WhoPrompts none = new WhoPrompts();
        due("20 nothing of nothing", none.cut(0, 0), 0);
        due("20 its RINGS", none.cut(0, 1), 0);
        due("20 more than there are", none.cut(1, 1), -2);
        WhoPrompts x = play(1, 12, 21, 31);
        // RINGS: 2 to 1, 3 to 1.
        due("20 RINGS without a cut", x.cut(0, 1), 2);
        due("20 one", x.cut(1, 0), 2);
        due("20 its RINGS", x.cut(1, 1), 0);
        due("20 two: least bits", x.cut(2, 0), 3);
        due("20 three", x.cut(3, 0), 7);
        WhoPrompts y = new WhoPrompts();
        y.line(0, 5, 1000);
        y.line(11, 9, 0);
        y.line(22, 7, 0);
        y.line(33, 9, 1);
        due("20 most SECONDS, then least bits", y.cut(1, 0), 2);
        due("20 most SECONDS of two", y.cut(2, 0), 2 + 8);
        due("20 a need must be told ahead", y.cut(3, 0), 2 + 4 + 8);
        WhoPrompts z = new WhoPrompts();
        z.line(0, 5, 1);
        z.line(0, 5, 1000);
        due("20 NOT", z.cut(0, 0), -2);
        due("20 NOT for RINGS too", z.cut(0, 1), -2);
        due("20 the one that needs", z.cut(1, 0), 1);
        due("20 both", z.cut(2, 0), 3);
        due("20 three of two", z.cut(3, 0), -2);
        WhoPrompts own = new WhoPrompts();
        own.line(0, 5, 1001);
        due("20 what it tells itself is not ahead", own.cut(0, 0), -2);
        WhoPrompts full = new WhoPrompts();
        for (int k = 0; k < 20; k++) {
            full.line(0, 1 + k, 0);
        }
        due("20 of 20 the longest three", full.cut(3, 0), 7 << 17);
        due("20 RINGS among 17", full.cut(3, 1), 17 * 16 / 2);
        int[][] wrong = {{-1, 0}, {4, 0}, {0, 2}, {0, -1}, {HIGH, 0}, {LOW, 0}};
        for (int[] w : wrong) {
            due("20 wrong cut(" + w[0] + ", " + w[1] + ")", x.cut(w[0], w[1]), -1);
        }
    }

    private static void promise21Newspaper() {
        WhoPrompts x = new WhoPrompts();
        int[] seconds = {4, 9, 4, 7, 9, 4, 1};
        for (int k = 0; k < seconds.length; k++) {
            x.line(k == 3 ? 200 : 100, seconds[k], 0);
        }
        int[] bits = {0, 2, 2 + 16, 1 + 2 + 16, 1 + 2 + 4 + 16, 1 + 2 + 4 + 16 + 32};
        int[] sum = {0, 450, 900, 1100, 1300, 1500};
        for (int n = 0; n <= 5; n++) {
            due("21 of PART 1, " + n, x.newspaper(10 + n, 0), bits[n]);
            due("21 its sum, " + n, x.newspaper(10 + n, 1), sum[n]);
        }
        due("21 at most n", x.newspaper(25, 0), 8);
        due("21 a PART without lines", x.newspaper(5, 0), 0);
        due("21 PART 5", x.newspaper(55, 1), 0);
        x.mend(1, 0, 100);
        x.mend(4, 0, 100);
        x.mend(0, 0, 100);
        due("21 none that add nothing", x.newspaper(15, 0), 4 + 32 + 64);
        x.mend(4, 0, 99);
        due("21 the better known one adds less", x.newspaper(12, 0), 4 + 32);
        x.line(300, 1, 0);
        x.mend(7, 0, 99);
        due("21 one that adds 1", x.newspaper(31, 0), 128);
        due("21 its sum", x.newspaper(31, 1), 1);
        x.mend(7, 0, 100);
        due("21 one that adds 0", x.newspaper(31, 0), 0);
        int[][] wrong = {{-1, 0}, {6, 0}, {16, 0}, {60, 0}, {56, 0}, {10, 2}, {10, -1}, {HIGH, 0}, {LOW, 0}};
        for (int[] w : wrong) {
            due("21 wrong newspaper(" + w[0] + ", " + w[1] + ")", x.newspaper(w[0], w[1]), -1);
        }
    }

    private static void promise22And23ImageAndBack() {
        WhoPrompts x = play(0, 0);
        due("23 STATE", x.back(), -5);
        x.set(0, 7);
        x.set(1, 3);
        x.mend(0, 0, 20);
        x.mend(0, 1, 4);
        due("22 image", x.image(), 2);
        due("22 CHANGES stay", x.count(2), 2);
        x.line(0, 1, 0);
        x.set(0, 1);
        x.set(1, 1);
        x.mend(0, 0, 90);
        x.mend(2, 0, 80);
        x.mend(0, 1, 9);
        x.rehearse(1);
        x.undo();
        due("23 back", x.back(), 2);
        due("23 HELD", x.of(0, 6), 20);
        due("23 HELD behind a rehearsal", x.of(1, 6), 50);
        due("23 a LINE that it did not know", x.of(2, 6), 80);
        due("23 PAUSE is not kept there", x.of(0, 10), 4);
        due("23 the LINE stays", x.count(0), 3);
        due("23 WAIT", x.set(0, 7), 7);
        due("23 NERVES", x.set(1, 3), 3);
        due("23 CHANGES are forgotten", x.count(2), 0);
        due("23 none UNDONE", x.undo(), -5);
        due("23 none DONE AGAIN", x.redo(), -5);
        x.mend(0, 0, 1);
        due("23 it is there still", x.back(), 2);
        due("23 HELD again", x.of(0, 6), 20);
        due("22 the latest one counts", x.image(), 3);
        x.mend(2, 0, 5);
        x.back();
        due("23 HELD by the latest", x.of(2, 6), 80);
        WhoPrompts empty = new WhoPrompts();
        due("22 without lines", empty.image(), 0);
        due("23 there is one", empty.back(), 0);
    }

    private static void promise24And25UndoAndRedo() {
        WhoPrompts x = play(0, 0);
        due("24 STATE", x.undo(), -5);
        due("25 STATE", x.redo(), -5);
        x.mend(0, 0, 10);
        x.mend(3, 1, 7);
        x.mend(0, 0, 30);
        due("24 the latest first", x.undo(), 2);
        due("24 HELD", x.of(0, 6), 10);
        due("24 PAUSE", x.undo(), 1);
        due("24 PAUSE then", x.of(3, 10), 0);
        due("25 DONE AGAIN", x.redo(), 1);
        due("25 PAUSE then", x.of(3, 10), 7);
        due("25 and the next", x.redo(), 0);
        due("25 HELD then", x.of(0, 6), 30);
        due("25 none more", x.redo(), -5);
        due("25 changes that may be UNDONE", x.count(2), 3);
        x.undo();
        x.rehearse(1);
        x.set(0, 5);
        due("25 a rehearsal is no CHANGE", x.redo(), 0);
        x.undo();
        x.mend(1, 0, 1);
        due("25 another came behind", x.redo(), -5);
        due("24 and is undone first", x.undo(), 2);
        due("24 HELD as the rehearsal left it", x.of(1, 6), 66);
        WhoPrompts y = play(0);
        for (int k = 1; k <= 45; k++) {
            y.mend(0, 0, k);
        }
        due("24 40 at most", y.count(2), 40);
        for (int k = 39; k >= 0; k--) {
            due("24 still " + k, y.undo(), k);
        }
        due("24 the oldest are forgotten", y.of(0, 6), 5);
        due("24 no more", y.undo(), -5);
        for (int k = 39; k >= 0; k--) {
            due("25 still " + k, y.redo(), k);
        }
        due("25 all again", y.of(0, 6), 45);
        mendsToTheSame();
    }

    private static void mendsToTheSame() {
        WhoPrompts x = play(0, 0);
        x.mend(0, 0, 50);
        x.mend(2, 1, 0);
        due("24 nothing changed", x.undo(), -5);
        x.mend(0, 0, 20);
        x.mend(0, 0, 20);
        due("24 only the one", x.undo(), 0);
        due("24 HELD ahead of it", x.of(0, 6), 50);
        x.mend(0, 0, 50);
        x.mend(4, 1, 0);
        due("25 no other CHANGE came behind", x.redo(), 0);
        due("25 HELD again", x.of(0, 6), 20);
        x.mend(3, 1, 6);
        x.mend(3, 1, 6);
        due("24 PAUSE", x.undo(), 1);
        due("24 PAUSE ahead of it", x.of(3, 10), 0);
        due("24 then HELD", x.undo(), 0);
        due("24 HELD at first", x.of(0, 6), 50);
        x.rehearse(0);
        x.mend(0, 0, 66);
        due("24 the same behind a rehearsal", x.count(2), 0);
        WhoPrompts y = play(0);
        for (int k = 1; k <= 40; k++) {
            y.mend(0, 0, k);
        }
        y.mend(0, 0, 40);
        for (int k = 39; k >= 0; k--) {
            due("24 the same drops no old one, " + k, y.undo(), k);
        }
        due("24 back to the first", y.of(0, 6), 50);
    }

    private static void promise26Body() {
        WhoPrompts x = new WhoPrompts();
        due("26 body(8)", x.body(8), -1);
        due("26 body(-1)", x.body(-1), -1);
        for (int k = 0; k < 50; k++) {
            due("26 body " + k, x.body(k % 8), k);
        }
        due("26 the 51st", x.body(0), -3);
        due("26 BAD ahead of FULL", x.body(8), -1);
        due("26 50 are there", x.count(3), 50);
        due("26 the last acts", x.act(49, 0, 1), 1 + 49 + 3);
    }

    private static void promise27Act() {
        WhoPrompts x = new WhoPrompts();
        for (int k = 0; k < 8; k++) {
            x.body(k);
        }
        int[][] expected = {{5, 10, 5, 9}, {9, 18, 4, 18}, {7, -14, 7, -17}, {8, -18, 18, -24}, {12, 24, 1, 22},
            {10, -22, -7, -26}, {22, 44, 3, 37}, {23, 51, 2, 45}};
        for (int b = 0; b < 8; b++) {
            for (int a = 0; a < 4; a++) {
                due("27 act(" + b + ", " + a + ", 5)", x.act(b, a, 5), expected[b][a]);
            }
        }
        due("27 it wraps", x.act(1, 0, HIGH), LOW + 3);
        due("27 it wraps twice", x.act(6, 1, HIGH), (HIGH + 6) * 2 * 2);
        int[][] wrong = {{8, 0}, {-1, 0}, {0, 4}, {0, -1}, {HIGH, 0}, {0, LOW}};
        for (int[] w : wrong) {
            x.act(7, 3, 5);
            due("27 wrong act(" + w[0] + ", " + w[1] + ", 1)", x.act(w[0], w[1], 1), 0);
            due("27 no TRACE then", x.count(4), 0);
            due("27 none at all", x.trace(0), -1);
        }
    }

    private static void promise28Trace() {
        WhoPrompts x = new WhoPrompts();
        for (int k = 0; k < 8; k++) {
            x.body(k);
        }
        int[][] ran = {{2, 10, 1, 11}, {2, 10, 20, 1, 11}, {2, 30, 10, 1, 11}, {2, 41, 30, 10, 1, 40, 11},
            {50, 2, 10, 20, 1, 11}, {61, 2, 41, 30, 10, 1, 60, 40, 11, 1}, {2, 10, 70, 1, 11},
            {2, 80, 10, 81, 70, 1, 11, 11}};
        for (int b = 0; b < 8; b++) {
            x.act(b, 3, 9);
            due("28 how many of " + b, x.count(4), ran[b].length);
            for (int k = 0; k < ran[b].length; k++) {
                due("28 trace(" + k + ") of " + b, x.trace(k), ran[b][k]);
            }
            due("28 none behind", x.trace(ran[b].length), -1);
        }
        due("28 trace(-1)", x.trace(-1), -1);
        due("28 trace(24)", x.trace(24), -1);
        due("28 trace(MAX)", x.trace(HIGH), -1);
    }

    private static void promise29Keep() {
        WhoPrompts x = new WhoPrompts();
        due("29 no such body", x.keep(0, 0), -1);
        x.body(3);
        due("29 keep(5, 0)", x.keep(5, 0), 1);
        due("29 it is there", x.taken(5, 3), 3);
        due("29 keep(5, 1)", x.keep(5, 1), -1);
        due("29 keep(5, -2)", x.keep(5, -2), -1);
        due("29 keep(6, 0)", x.keep(6, 0), -1);
        due("29 keep(-1, 0)", x.keep(-1, 0), -1);
        due("29 BAD changes nothing", x.taken(5, 3), 3);
        due("29 keep(5, -1)", x.keep(5, -1), 1);
        due("29 nothing is there", x.taken(5, 3), -11);
        x.row(5, 0, 2);
        x.keep(5, 0);
        due("29 a body in a row's stead", x.put(5, 0, 1), -12);
    }

    private static void promise30Row() {
        WhoPrompts x = new WhoPrompts();
        for (int sort = 0; sort < 5; sort++) {
            due("30 row of " + sort, x.row(sort, sort, 60), 1);
            due("30 0 at first", x.element(sort, 59), 0);
            due("30 its end", x.element(sort, 60), Long.MIN_VALUE);
        }
        x.put(0, 0, 5);
        int[][] wrong = {{6, 0, 1, -1}, {-1, 0, 1, -1}, {0, 5, 1, -1}, {0, -1, 1, -1}, {0, 0, 61, -1}, {0, 0, HIGH, -1},
            {0, 0, -1, -14}, {0, 0, LOW, -14}, {0, 5, -1, -1}, {6, 0, -1, -1}};
        for (int[] w : wrong) {
            due("30 wrong row(" + w[0] + ", " + w[1] + ", " + w[2] + ")", x.row(w[0], w[1], w[2]), w[3]);
        }
        due("30 what is refused changes nothing", x.element(0, 0), 5);
        x.row(0, 0, 3);
        due("30 a new one is 0 again", x.element(0, 0), 0);
        due("30 of 0 elements", x.row(0, 0, 0), 1);
        due("30 it has none", x.put(0, 0, 1), -13);
    }

    private static void promise31Put() {
        WhoPrompts x = new WhoPrompts();
        due("31 nothing there", x.put(0, 0, 1), -11);
        due("31 shelf 6", x.put(6, 0, 1), -1);
        due("31 shelf -1", x.put(-1, 0, 1), -1);
        x.body(0);
        x.keep(0, 0);
        due("31 a body", x.put(0, 0, 1), -12);
        due("31 -12 ahead of -13", x.put(0, -1, 1), -12);
        long[] given = {0x1122334455667788L, -1L, 128, 32768, 1L << 31, Long.MIN_VALUE, 0, 256};
        for (long v : given) {
            long[] kept = {(byte) v, (short) v, (int) v, v, v == 0 ? 0 : 1};
            for (int sort = 0; sort < 5; sort++) {
                x.row(0, sort, 3);
                due("31 put", x.put(0, 2, v), 1);
                due("31 sort " + sort + " of " + v, x.element(0, 2), kept[sort]);
                due("31 the one beside it", x.element(0, 1), 0);
            }
        }
        due("31 place 3 of 3", x.put(0, 3, 1), -13);
        due("31 place -1", x.put(0, -1, 1), -13);
        due("31 place MAX", x.put(0, HIGH, 1), -13);
    }

    private static void promise32Element() {
        WhoPrompts x = new WhoPrompts();
        long none = Long.MIN_VALUE;
        due("32 shelf 6", x.element(6, 0), none);
        due("32 shelf -1", x.element(-1, 0), none);
        due("32 nothing there", x.element(0, 0), none);
        x.body(0);
        x.keep(0, 0);
        due("32 a body", x.element(0, 0), none);
        x.row(0, 3, 2);
        x.put(0, 1, Long.MAX_VALUE);
        due("32 element(0, 1)", x.element(0, 1), Long.MAX_VALUE);
        due("32 place 2", x.element(0, 2), none);
        due("32 place -1", x.element(0, -1), none);
        due("32 place MIN", x.element(0, LOW), none);
    }

    private static void promise33Shift() {
        WhoPrompts x = new WhoPrompts();
        bytes(x, 0, 1, 2, 3, 4, 5);
        bytes(x, 1, 9, 8, 7);
        due("33 to another", x.shift(0, 2, 1, 1, 2), 2);
        int[] then = {9, 3, 4};
        for (int k = 0; k < 3; k++) {
            due("33 other's " + k, x.element(1, k), then[k]);
        }
        due("33 on within itself", x.shift(0, 0, 0, 1, 4), 4);
        int[] on = {1, 1, 2, 3, 4};
        for (int k = 0; k < 5; k++) {
            due("33 as they all were before, " + k, x.element(0, k), on[k]);
        }
        due("33 back within itself", x.shift(0, 1, 0, 0, 4), 4);
        int[] back = {1, 2, 3, 4, 4};
        for (int k = 0; k < 5; k++) {
            due("33 as they all were before again, " + k, x.element(0, k), back[k]);
        }
        due("33 none", x.shift(0, 5, 1, 3, 0), 0);
        due("33 all of it, to itself", x.shift(1, 0, 1, 0, 3), 3);
        int[][] places = {{4, 0, 2}, {0, 2, 2}, {-1, 0, 1}, {0, -1, 1}, {0, 0, -1}, {6, 0, 0}, {0, 4, 0}, {HIGH, 0, 1},
            {1, 0, HIGH}, {0, HIGH, 1}, {LOW, LOW, LOW}};
        for (int[] p : places) {
            due("33 no place: " + p[0] + " " + p[1] + " " + p[2], x.shift(0, p[0], 1, p[1], p[2]), -13);
        }
        due("33 what is refused changes nothing", x.element(1, 2), 4);
        x.row(2, 1, 5);
        x.body(0);
        x.keep(3, 0);
        due("33 unlike sorts", x.shift(0, 0, 2, 0, 1), -12);
        due("33 -12 ahead of -13", x.shift(0, 9, 2, 0, 1), -12);
        due("33 from a body", x.shift(3, 0, 0, 0, 1), -12);
        due("33 to a body", x.shift(0, 0, 3, 0, 1), -12);
        due("33 a body to itself", x.shift(3, 0, 3, 0, 0), -12);
        due("33 nothing here", x.shift(4, 0, 0, 0, 1), -11);
        due("33 nothing there", x.shift(0, 0, 4, 0, 1), -11);
        due("33 -11 ahead of -12", x.shift(3, 0, 4, 0, 1), -11);
        due("33 shelf 6", x.shift(6, 0, 0, 0, 1), -1);
        due("33 other -1", x.shift(4, 0, -1, 0, 1), -1);
    }

    private static void promise34Taken() {
        WhoPrompts x = new WhoPrompts();
        String[] upper = {"0", "01", "02", "023", "014", "0235", "06", "067"};
        for (int kind = 0; kind < 8; kind++) {
            x.body(kind);
            x.keep(0, kind);
            for (int k = 0; k < 8; k++) {
                boolean under = upper[kind].indexOf('0' + k) >= 0;
                due("34 " + kind + " taken for " + k, x.taken(0, k), under ? kind : -12);
            }
        }
        due("34 k 8", x.taken(0, 8), -1);
        due("34 k -1", x.taken(0, -1), -1);
        due("34 shelf 6", x.taken(6, 0), -1);
        due("34 shelf -1", x.taken(-1, 0), -1);
        due("34 nothing there", x.taken(1, 0), -11);
        due("34 BAD ahead of -11", x.taken(1, 8), -1);
        x.row(0, 0, 1);
        due("34 a row", x.taken(0, 0), -12);
    }

    private static void promise35Count() {
        WhoPrompts x = play(0, 0, 0);
        x.feed(1);
        x.feed(2);
        x.mend(0, 0, 1);
        x.body(0);
        x.body(5);
        x.body(0);
        x.body(0);
        x.act(1, 3, 0);
        int[] expected = {3, 2, 1, 4, 10};
        for (int what = 0; what < 5; what++) {
            due("35 count(" + what + ")", x.count(what), expected[what]);
        }
        x.undo();
        due("35 UNDONE", x.count(2), 0);
        for (int wrong : new int[] {-1, 5, HIGH, LOW}) {
            due("35 count(" + wrong + ")", x.count(wrong), -1);
        }
    }
}
