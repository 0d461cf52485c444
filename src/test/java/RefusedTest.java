import java.util.function.BiFunction;

/** What is answered by BAD, NOT, FULL, STATE, or -11 to -14 changes nothing: every refusal of every call. */
public final class RefusedTest extends TestBase {
    private static final int[] FAR = {LOW, HIGH};

    public static void main(String[] args) {
        says(35, "What is answered so changes nothing.");
        badLines();
        fullLines();
        linesFromARow();
        tapeAndLaws();
        setAndMend();
        ofAndRehearse();
        jumpsAndWays();
        nights();
        tapes();
        whatToDo();
        imageAndChanges();
        bodiesAndActs();
        shelves();
        C.finish();
    }

    /** Something of everything: LINES, LAWS, half a TEXT, a NIGHT, an IMAGE, CHANGES done and UNDONE, BODIES, ROWS. */
    private static void inTheMidst(WhoPrompts x) {
        x.line(1, 5, 1000);
        x.line(112, 4, 2001);
        x.line(21, 7, 4000);
        x.line(131, 6, 8);
        law(x, 0, "h-i*7");
        law(x, 1, "9+p");
        x.set(0, 7);
        x.set(1, 6);
        x.image();
        x.set(0, 5);
        x.set(1, 2);
        x.mend(0, 0, 70);
        x.mend(0, 1, 3);
        x.mend(1, 0, 20);
        x.mend(2, 0, 33);
        x.undo();
        x.night(77);
        x.body(5);
        x.body(2);
        x.act(0, 3, 4);
        x.keep(0, 0);
        shorts(x, 1, 9, 8, 7, 6, 5);
        bytes(x, 2, 0, 1, 2);
        bytes(x, 3, 0, 3);
        x.row(4, 4, 0);
        x.feed('h');
        x.feed('+');
    }

    private static void refused(String call, Twins.Call asked, long want) {
        Twins.refused(C, call, RefusedTest::inTheMidst, asked, want);
    }

    /** A number that is refused in one place of a call. */
    private static void refused(String call, long want, BiFunction<WhoPrompts, Integer, Long> asked, int... wrong) {
        for (int w : wrong) {
            refused(call.replace("#", String.valueOf(w)), x -> asked.apply(x, w), want);
        }
        for (int w : FAR) {
            refused(call.replace("#", String.valueOf(w)), x -> asked.apply(x, w), want);
        }
    }

    private static void badLines() {
        refused("line(#, 1, 0)", -1, (x, w) -> (long) x.line(w, 1, 0), -1, 600);
        refused("line(0, #, 0)", -1, (x, w) -> (long) x.line(0, w, 0), 0, 31);
        refused("line(0, 1, #)", -1, (x, w) -> (long) x.line(0, 1, w), -1, 256, 255256, 256000);
    }

    private static void fullLines() {
        Twins.Lead full = x -> {
            for (int k = 0; k < 20; k++) {
                x.line(k, 1 + k, 1000 * k);
            }
            shorts(x, 0, 1, 1, 1, 1, 1);
        };
        Twins.refused(C, "line(500, 30, 255255), the 21st", full, x -> x.line(500, 30, 255255), -3);
        Twins.refused(C, "lines(0, 0, 1), the 21st", full, x -> x.lines(0, 0, 1), 0);
        Twins.refused(C, "line(600, 1, 0) while FULL", full, x -> x.line(600, 1, 0), -1);
    }

    private static void linesFromARow() {
        refused("lines(#, 0, 1)", -1, (x, w) -> (long) x.lines(w, 0, 1), -1, 6);
        refused("lines(1, 0, #)", -1, (x, w) -> (long) x.lines(1, 0, w), 0, 13);
        refused("lines(0, 0, 1) of a BODY", x -> x.lines(0, 0, 1), -12);
        refused("lines(2, 0, 1) of bytes", x -> x.lines(2, 0, 1), -12);
        refused("lines(5, 0, 1) of nothing", x -> x.lines(5, 0, 1), 0);
        refused("lines(1, 0, 1) of PART 9", x -> x.lines(1, 0, 1), 0);
        refused("lines(1, #, 1) of five", 0, (x, w) -> (long) x.lines(1, w, 1), -1, 1, 5);
    }

    private static void tapeAndLaws() {
        refused("feed(#)", -1, (x, w) -> (long) x.feed(w), -1, 256);
        refused("law(#)", -1, (x, w) -> (long) x.law(w), -1, 2);
        Twins.Lead full = x -> {
            x.line(0, 1, 0);
            x.feed('9');
            for (int k = 0; k < 59; k++) {
                x.feed('-');
                x.feed('0');
            }
            x.feed('0');
        };
        Twins.refused(C, "feed('+'), the 121st", full, x -> x.feed('+'), -3);
        Twins.refused(C, "feed(256) while FULL", full, x -> x.feed(256), -1);
        Twins.refused(C, "law(2) while FULL", full, x -> x.law(2), -1);
    }

    private static void setAndMend() {
        refused("set(#, 3)", -1, (x, w) -> (long) x.set(w, 3), -1, 2);
        refused("set(0, #)", -1, (x, w) -> (long) x.set(0, w), -1, 10);
        refused("set(1, #)", -1, (x, w) -> (long) x.set(1, w), -1, 10);
        refused("mend(#, 0, 3)", -1, (x, w) -> (long) x.mend(w, 0, 3), -1, 4);
        refused("mend(#, 1, 3)", -1, (x, w) -> (long) x.mend(w, 1, 3), -1, 6);
        refused("mend(0, #, 3)", -1, (x, w) -> (long) x.mend(0, w, 3), -1, 2);
        refused("mend(0, 0, #)", -1, (x, w) -> (long) x.mend(0, 0, w), -1, 101);
        refused("mend(0, 1, #)", -1, (x, w) -> (long) x.mend(0, 1, w), -1, 10);
    }

    private static void ofAndRehearse() {
        refused("of(#, 6)", -1, (x, w) -> (long) x.of(w, 6), -1, 4);
        refused("of(#, 10)", -1, (x, w) -> (long) x.of(w, 10), -1, 6);
        refused("of(0, #)", -1, (x, w) -> (long) x.of(0, w), -1, 12);
        refused("rehearse(#)", -1, (x, w) -> (long) x.rehearse(w), -1, 4);
    }

    private static void jumpsAndWays() {
        refused("jumps(#, 0)", -1, (x, w) -> (long) x.jumps(w, 0), -1, 2);
        refused("jumps(0, #)", -1, (x, w) -> (long) x.jumps(0, w), -2, 20);
        refused("behind(#)", -1, (x, w) -> (long) x.behind(w), -1, 4, 400);
        refused("behind(1), no JUMP", x -> x.behind(1), -2);
        refused("way(#, -1)", -1, (x, w) -> (long) x.way(w, -1), -1, 4, 400);
        refused("way(1, #)", -1, (x, w) -> (long) x.way(1, w), -2, 1);
        refused("way(3, -1), no way", x -> x.way(3, -1), -2);
    }

    private static void nights() {
        Twins.Lead noLines = x -> {
            x.set(0, 9);
            x.mend(0, 1, 5);
            law(x, 0, "77");
        };
        Twins.refused(C, "night(1) without LINES", noLines, x -> x.night(1), -5);
        Twins.refused(C, "mean(1, 1, 0) without LINES", noLines, x -> x.mean(1, 1, 0), -5);
        Twins.refused(C, "told(0) without a NIGHT", noLines, x -> x.told(0), -5);
        Twins.refused(C, "said(0, 0) without a NIGHT", noLines, x -> x.said(0, 0), -5);
        Twins.refused(C, "evenings(1, -1) without LINES", noLines, x -> x.evenings(1, -1), -5);
        refused("told(#)", -1, (x, w) -> (long) x.told(w), -1, 5);
        refused("said(#, 0)", -1, (x, w) -> (long) x.said(w, 0), -1, 60);
        refused("said(0, #)", -1, (x, w) -> (long) x.said(0, w), -1, 3);
        refused("mean(1, #, 0)", -1, (x, w) -> (long) x.mean(1, w, 0), 0, 21);
        refused("mean(1, 1, #)", -1, (x, w) -> (long) x.mean(1, 1, w), -1, 5);
    }

    private static void tapes() {
        refused("tape(#, 0)", -1, (x, w) -> (long) x.tape(w, 0), -1, 6);
        refused("tape(2, #)", -1, (x, w) -> (long) x.tape(2, w), -1, 2);
        refused("tape(5, 0) of nothing", x -> x.tape(5, 0), -11);
        refused("tape(0, 0) of a BODY", x -> x.tape(0, 0), -12);
        refused("tape(1, 0) of shorts", x -> x.tape(1, 0), -12);
        refused("tape(2, 0) that can be", x -> x.tape(2, 0), -2);
        refused("tape(3, 1) that can't be", x -> x.tape(3, 1), -5);
    }

    private static void whatToDo() {
        refused("prompt(#, 0)", -1, (x, w) -> (long) x.prompt(w, 0), -1, 6);
        refused("prompt(0, #)", -1, (x, w) -> (long) x.prompt(0, w), -1, 2);
        refused("evenings(#, -1)", -1, (x, w) -> (long) x.evenings(w, -1), -1, 31);
        refused("evenings(1, #)", -1, (x, w) -> (long) x.evenings(1, w), -2, 4);
        refused("cut(#, 0)", -1, (x, w) -> (long) x.cut(w, 0), -1, 4);
        refused("cut(1, #)", -1, (x, w) -> (long) x.cut(1, w), -1, 2);
        refused("cut(0, 0), a need is not told", x -> x.cut(0, 0), -2);
        refused("newspaper(#, 0)", -1, (x, w) -> (long) x.newspaper(w, 0), -1, 6, 56, 60);
        refused("newspaper(1, #)", -1, (x, w) -> (long) x.newspaper(1, w), -1, 2);
        // These are not refused, but are in thought.
        refused("evenings(30, -1)", x -> Math.min(0, x.evenings(30, -1)), 0);
        refused("mean(5, 20, 1)", x -> Math.min(0, x.mean(5, 20, 1)), 0);
    }

    private static void imageAndChanges() {
        Twins.Lead none = x -> {
            x.line(0, 1, 0);
            x.line(0, 1, 0);
            x.set(0, 9);
            x.rehearse(1);
        };
        Twins.Lead undone = x -> {
            none.lead(x);
            x.mend(0, 0, 5);
            x.undo();
        };
        Twins.Lead done = x -> {
            none.lead(x);
            x.mend(0, 0, 5);
        };
        Twins.refused(C, "back() without an IMAGE", done, x -> x.back(), -5);
        Twins.refused(C, "undo() of none", none, x -> x.undo(), -5);
        Twins.refused(C, "undo() behind all were", undone, x -> x.undo(), -5);
        Twins.refused(C, "redo() of none", none, x -> x.redo(), -5);
        Twins.refused(C, "redo() where none is UNDONE", done, x -> x.redo(), -5);
    }

    private static void bodiesAndActs() {
        refused("body(#)", -1, (x, w) -> (long) x.body(w), -1, 8);
        refused("trace(#)", -1, (x, w) -> (long) x.trace(w), -1, 10, 24);
        Twins.Lead full = x -> {
            for (int k = 0; k < 50; k++) {
                x.body(k % 8);
            }
            x.act(49, 1, 1);
        };
        Twins.refused(C, "body(3), the 51st", full, x -> x.body(3), -3);
        Twins.refused(C, "body(8) while FULL", full, x -> x.body(8), -1);
        // An ACT that is none leaves no TRACE; all else stays.
        Twins.Lead untraced = x -> x.body(4);
        Twins.refused(C, "act(1, 0, 5)", untraced, x -> x.act(1, 0, 5), 0);
        Twins.refused(C, "act(0, 4, 5)", untraced, x -> x.act(0, 4, 5), 0);
    }

    private static void shelves() {
        refused("keep(#, 1)", -1, (x, w) -> (long) x.keep(w, 1), -1, 6);
        refused("keep(1, #)", -1, (x, w) -> (long) x.keep(1, w), -2, 2);
        refused("row(#, 0, 1)", -1, (x, w) -> (long) x.row(w, 0, 1), -1, 6);
        refused("row(1, #, 1)", -1, (x, w) -> (long) x.row(1, w, 1), -1, 5);
        refused("row(1, 0, 61)", x -> x.row(1, 0, 61), -1);
        refused("row(1, 0, -1)", x -> x.row(1, 0, -1), -14);
        refused("put(#, 0, 1)", -1, (x, w) -> (long) x.put(w, 0, 1), -1, 6);
        refused("put(5, 0, 1) to nothing", x -> x.put(5, 0, 1), -11);
        refused("put(0, 0, 1) to a BODY", x -> x.put(0, 0, 1), -12);
        refused("put(1, #, 1)", -13, (x, w) -> (long) x.put(1, w, 1), -1, 5);
        refused("element(#, 0)", Long.MIN_VALUE, (x, w) -> x.element(w, 0), -1, 6);
        refused("element(1, #)", Long.MIN_VALUE, (x, w) -> x.element(1, w), -1, 5);
        refused("shift(#, 0, 3, 0, 1)", -1, (x, w) -> (long) x.shift(w, 0, 3, 0, 1), -1, 6);
        refused("shift(2, 0, #, 0, 1)", -1, (x, w) -> (long) x.shift(2, 0, w, 0, 1), -1, 6);
        refused("shift(2, 0, 5, 0, 1) to nothing", x -> x.shift(2, 0, 5, 0, 1), -11);
        refused("shift(5, 0, 2, 0, 1) from nothing", x -> x.shift(5, 0, 2, 0, 1), -11);
        refused("shift(2, 0, 0, 0, 1) to a BODY", x -> x.shift(2, 0, 0, 0, 1), -12);
        refused("shift(2, 0, 1, 0, 1) to shorts", x -> x.shift(2, 0, 1, 0, 1), -12);
        refused("shift(2, #, 3, 0, 1)", -13, (x, w) -> (long) x.shift(2, w, 3, 0, 1), -1, 3);
        refused("shift(2, 1, 3, #, 1)", -13, (x, w) -> (long) x.shift(2, 1, 3, w, 1), -1, 2);
        refused("shift(2, 1, 3, 0, #)", -13, (x, w) -> (long) x.shift(2, 1, 3, 0, w), -1, 3);
        refused("shift(2, 0, 2, 1, 3) within itself", x -> x.shift(2, 0, 2, 1, 3), -13);
        refused("taken(#, 0)", -1, (x, w) -> (long) x.taken(w, 0), -1, 6);
        refused("taken(0, #)", -1, (x, w) -> (long) x.taken(0, w), -1, 8);
        refused("taken(5, 0) of nothing", x -> x.taken(5, 0), -11);
        refused("taken(1, 0) of a ROW", x -> x.taken(1, 0), -12);
        refused("taken(0, 4) of RINGED", x -> x.taken(0, 4), -12);
        refused("count(#)", -1, (x, w) -> (long) x.count(w), -1, 5);
    }
}
