import java.util.Arrays;

/**
 * Who prompts: a play's lines by parts, how well they are held, nights on which they are said,
 * jumped or dried, and what to do about it. The promises stand in the project's document.
 */
public final class WhoPrompts {
    public static final int BAD = -1, NOT = -2, FULL = -3, STATE = -5, VOID = -2000000000;

    private static final int NOTHING_THERE = -11, OTHER_KIND = -12, NO_PLACE = -13, SIZE_BELOW_0 = -14;
    private static final int LINES_MOST = 20, PARTS = 6, WORDS = 10, FACTS_MOST = 255, LONG_MOST = 30;
    private static final int HELD_MOST = 100, PAUSE_MOST = 9, WAIT_MOST = 9, NERVES_MOST = 9;
    private static final int SHELVES = 6, TAPE_MOST = 120, FROM_ROW_MOST = 12, FIVE = 5;
    private static final int NIGHTS_MOST = 20, EVENINGS_MOST = 30, CUT_MOST = 3, NEWSPAPER_MOST = 5;
    private static final int NONE = -1;

    private final Play play = new Play();
    private final int[] letters = new int[TAPE_MOST];
    private int lettersFed = 0;
    private final LawReader reader = new LawReader();
    private final Night theNight = new Night();
    // Means must not touch THE NIGHT that is kept.
    private final Night tried = new Night();
    private final WayBack wayBack = new WayBack();
    private final Evenings thought = new Evenings();
    private final Cutting cutting = new Cutting();
    private final Image kept = new Image();
    private final Changes changes = new Changes();
    private final Bodies bodies = new Bodies();
    private final Shelf[] shelves = new Shelf[SHELVES];

    public WhoPrompts() {
        for (int s = 0; s < SHELVES; s++) {
            shelves[s] = new Shelf();
        }
    }

    // ---- the play

    public int line(int pcl, int seconds, int tn) {
        if (pcl < 0 || tn < 0) {
            return BAD;
        }
        int part = pcl / 100;
        int tells = tn / 1000;
        int needs = tn % 1000;
        if (!Play.mayBe(part, pcl / 10 % 10, pcl % 10, seconds, tells) || needs > FACTS_MOST) {
            return BAD;
        }
        if (play.isFull()) {
            return FULL;
        }
        return play.add(pcl, seconds, tells, needs);
    }

    public int lines(int shelf, int i, int n) {
        if (isNoShelf(shelf) || n < 1 || n > FROM_ROW_MOST) {
            return BAD;
        }
        Shelf row = shelves[shelf];
        if (row.holdsNothing()) {
            return 0;
        }
        if (!row.holdsRowOf(Shelf.SHORTS)) {
            return OTHER_KIND;
        }
        for (int came = 0; came < n; came++) {
            // A place that the row has not ends it, below 0 too; written so that a great i cannot wrap.
            if (i < 0 || i > row.size - FIVE * (came + 1) || !addFromRow(row, i + FIVE * came)) {
                return came;
            }
        }
        return n;
    }

    private boolean addFromRow(Shelf row, int at) {
        int part = row.intAt(at);
        int cue = row.intAt(at + 1);
        int last = row.intAt(at + 2);
        int seconds = row.intAt(at + 3);
        int tells = row.intAt(at + 4);
        if (!Play.mayBe(part, cue, last, seconds, tells) || play.isFull()) {
            return false;
        }
        play.add(100 * part + 10 * cue + last, seconds, tells, 0);
        return true;
    }

    public int feed(int letter) {
        if (letter < 0 || letter > 255) {
            return BAD;
        }
        if (lettersFed >= TAPE_MOST) {
            return FULL;
        }
        letters[lettersFed] = letter;
        lettersFed++;
        return lettersFed;
    }

    public int law(int which) {
        if (which != 0 && which != 1) {
            return BAD;
        }
        int fault = reader.faultOf(letters, lettersFed);
        lettersFed = 0;
        if (fault != NONE) {
            return -100 - fault;
        }
        reader.handTo(which == 0 ? play.knowing : play.gaining);
        return 1;
    }

    public int set(int what, int v) {
        if (what == 0 && v >= 0 && v <= WAIT_MOST) {
            int before = play.wait;
            play.wait = v;
            return before;
        }
        if (what == 1 && v >= 0 && v <= NERVES_MOST) {
            int before = play.nerves;
            play.nerves = v;
            return before;
        }
        return BAD;
    }

    public int mend(int number, int what, int v) {
        boolean held = what == Changes.HELD && play.has(number) && v >= 0 && v <= HELD_MOST;
        boolean pause = what == Changes.PAUSE && isPart(number) && v >= 0 && v <= PAUSE_MOST;
        if (!held && !pause) {
            return BAD;
        }
        int before = held ? play.held[number] : play.pause[number];
        // What stays as it was is no CHANGE: undo() must reach the one ahead, redo() the one behind.
        if (v != before) {
            changes.note(what, number, before, v);
            play.change(what, number, v);
        }
        return before;
    }

    public int of(int number, int what) {
        if (what == 10 || what == 11) {
            if (!isPart(number)) {
                return BAD;
            }
            return what == 10 ? play.pause[number] : play.linesOfPart(number);
        }
        if (!play.has(number)) {
            return BAD;
        }
        return play.about(number, what);
    }

    public int rehearse(int line) {
        if (!play.has(line)) {
            return BAD;
        }
        int before = play.held[line];
        play.held[line] = Math.min(HELD_MOST, before + play.gains(line, before));
        return play.held[line];
    }

    // ---- jumps, ways back

    public int jumps(int kind, int i) {
        if (kind < 0 || kind > 1 || i < -1) {
            return BAD;
        }
        int met = 0;
        for (int from = 0; from < play.size; from++) {
            int targets = kind == 0 ? play.jumpsFrom(from) : play.ringsFrom(from);
            int more = Integer.bitCount(targets);
            if (i >= 0 && i < met + more) {
                return 100 * from + bitNumber(targets, i - met);
            }
            met += more;
        }
        return i == -1 ? met : BAD;
    }

    private static int bitNumber(int bits, int k) {
        int left = k;
        for (int j = 0; j < LINES_MOST; j++) {
            if ((bits >> j & 1) != 0) {
                if (left == 0) {
                    return j;
                }
                left--;
            }
        }
        return BAD;
    }

    public int behind(int ij) {
        if (!areLines(ij)) {
            return BAD;
        }
        int i = ij / 100;
        int j = ij % 100;
        if (!play.isJump(i, j)) {
            return NOT;
        }
        int told = 0;
        int lacked = 0;
        for (int k = 0; k <= i; k++) {
            lacked |= play.needs[k] & ~told;
            told |= play.tells[k];
        }
        for (int k = j; k < play.size; k++) {
            lacked |= play.needs[k] & ~told;
            told |= play.tells[k];
        }
        return lacked;
    }

    public int way(int it, int k) {
        if (!areLines(it) || k < -1) {
            return BAD;
        }
        int steps = wayBack.search(play, it / 100, it % 100);
        if (steps == NONE) {
            return NOT;
        }
        if (k >= steps) {
            return BAD;
        }
        return k == -1 ? steps : wayBack.lineAt(steps, k);
    }

    // ---- nights

    public int night(int seed) {
        if (play.size == 0) {
            return STATE;
        }
        theNight.learn(play);
        theNight.perform(play, seed);
        return theNight.size;
    }

    public int told(int what) {
        if (isNoFigure(what)) {
            return BAD;
        }
        return theNight.size == 0 ? STATE : theNight.figure(what);
    }

    public int said(int k, int what) {
        if (k < 0 || what < 0 || what > 2) {
            return BAD;
        }
        // Ahead of the look at a great k: without a NIGHT there is nothing to hold it against.
        if (theNight.size == 0) {
            return STATE;
        }
        return k >= theNight.size ? BAD : theNight.about(k, what);
    }

    public int mean(int seed, int n, int what) {
        if (n < 1 || n > NIGHTS_MOST || isNoFigure(what)) {
            return BAD;
        }
        if (play.size == 0) {
            return STATE;
        }
        tried.learn(play);
        int z = seed;
        int sum = 0;
        for (int k = 0; k < n; k++) {
            z = tried.perform(play, z);
            sum += tried.figure(what);
        }
        return sum / n;
    }

    public int tape(int shelf, int what) {
        if (isNoShelf(shelf) || what < 0 || what > 1) {
            return BAD;
        }
        Shelf row = shelves[shelf];
        if (row.holdsNothing()) {
            return NOTHING_THERE;
        }
        if (!row.holdsRowOf(Shelf.BYTES)) {
            return OTHER_KIND;
        }
        int place = firstImpossible(row);
        if (what == 0) {
            return place == NONE ? NOT : place;
        }
        return place == NONE ? jumpsOnTape(row) : STATE;
    }

    private int firstImpossible(Shelf row) {
        int at = NONE;
        for (int k = 0; k < row.size; k++) {
            int next = row.intAt(k);
            if (!play.has(next) || next != at + 1 && !play.isJump(at, next)) {
                return k;
            }
            at = next;
        }
        return NONE;
    }

    private int jumpsOnTape(Shelf row) {
        int found = 0;
        for (int k = 1; k < row.size; k++) {
            if (row.intAt(k) != row.intAt(k - 1) + 1) {
                found++;
            }
        }
        return found;
    }

    // ---- what to do

    public int prompt(int part, int what) {
        if (!isPart(part) || what < 0 || what > 1) {
            return BAD;
        }
        int known = 0;
        int lines = 0;
        for (int i = 0; i < play.size; i++) {
            if (play.part[i] == part) {
                known += play.knows(i);
                lines++;
            }
        }
        int bestWait = 0;
        int bestSum = 0;
        for (int wait = 0; wait <= WAIT_MOST; wait++) {
            int sum = (HELD_MOST * lines - known) * wait + (wait < play.pause[part] ? 5 * known : 0);
            if (wait == 0 || sum < bestSum) {
                bestWait = wait;
                bestSum = sum;
            }
        }
        return what == 0 ? bestWait : bestSum;
    }

    public int evenings(int n, int line) {
        if (n < 0 || n > EVENINGS_MOST || line != -1 && !play.has(line)) {
            return BAD;
        }
        if (play.size == 0) {
            return STATE;
        }
        thought.begin(play);
        thought.spend(play, n);
        return line == -1 ? thought.harm : thought.times[line];
    }

    public int cut(int n, int what) {
        if (n < 0 || n > CUT_MOST || what < 0 || what > 1) {
            return BAD;
        }
        if (!cutting.find(play, n)) {
            return NOT;
        }
        return what == 0 ? cutting.bits : cutting.rings;
    }

    public int newspaper(int pn, int what) {
        if (pn < 0 || !isPart(pn / 10) || pn % 10 > NEWSPAPER_MOST || what < 0 || what > 1) {
            return BAD;
        }
        int bits = 0;
        int sum = 0;
        for (int k = 0; k < pn % 10; k++) {
            int line = dearestLine(pn / 10, bits);
            if (line != NONE) {
                bits |= 1 << line;
                sum += play.risk(line);
            }
        }
        return what == 0 ? bits : sum;
    }

    private int dearestLine(int part, int without) {
        int found = NONE;
        int most = 0;
        for (int i = 0; i < play.size; i++) {
            if (play.part[i] == part && (without >> i & 1) == 0) {
                int risk = play.risk(i);
                if (risk > most) {
                    most = risk;
                    found = i;
                }
            }
        }
        return found;
    }

    public int image() {
        kept.take(play);
        return play.size;
    }

    public int back() {
        if (kept.size == NONE) {
            return STATE;
        }
        kept.giveBack(play);
        changes.forget();
        return kept.size;
    }

    public int undo() {
        return changes.stepBack(play) ? changes.done : STATE;
    }

    public int redo() {
        return changes.stepOn(play) ? changes.known - changes.done : STATE;
    }

    // ---- acts, shelves

    public int body(int kind) {
        if (isNoKind(kind)) {
            return BAD;
        }
        return bodies.isFull() ? FULL : bodies.add(kind);
    }

    public int act(int body, int act, int x) {
        return bodies.perform(body, act, x);
    }

    public int trace(int i) {
        return i < 0 || i >= bodies.traced() ? BAD : bodies.trail[i];
    }

    public int keep(int shelf, int body) {
        if (isNoShelf(shelf) || body != -1 && !bodies.has(body)) {
            return BAD;
        }
        if (body == -1) {
            shelves[shelf].holdNothing();
        } else {
            shelves[shelf].holdBody(bodies.kinds[body]);
        }
        return 1;
    }

    public int row(int shelf, int sort, int n) {
        if (isNoShelf(shelf) || sort < 0 || sort > Shelf.BOOLEANS || n > Shelf.MOST) {
            return BAD;
        }
        if (n < 0) {
            return SIZE_BELOW_0;
        }
        shelves[shelf].holdRow(sort, n);
        return 1;
    }

    public int put(int shelf, int i, long v) {
        int refusal = refusalOfPlace(shelf, i);
        if (refusal != 0) {
            return refusal;
        }
        shelves[shelf].store(i, v);
        return 1;
    }

    public long element(int shelf, int i) {
        return refusalOfPlace(shelf, i) != 0 ? Long.MIN_VALUE : shelves[shelf].elements[i];
    }

    private int refusalOfPlace(int shelf, int i) {
        if (isNoShelf(shelf)) {
            return BAD;
        }
        Shelf row = shelves[shelf];
        if (row.holdsNothing()) {
            return NOTHING_THERE;
        }
        if (!row.holdsRow()) {
            return OTHER_KIND;
        }
        return i < 0 || i >= row.size ? NO_PLACE : 0;
    }

    public int shift(int shelf, int i, int other, int j, int n) {
        if (isNoShelf(shelf) || isNoShelf(other)) {
            return BAD;
        }
        Shelf from = shelves[shelf];
        Shelf to = shelves[other];
        if (from.holdsNothing() || to.holdsNothing()) {
            return NOTHING_THERE;
        }
        if (!from.holdsRow() || !to.holdsRowOf(from.sort)) {
            return OTHER_KIND;
        }
        if (!from.hasPlaces(i, n) || !to.hasPlaces(j, n)) {
            return NO_PLACE;
        }
        System.arraycopy(from.elements, i, to.elements, j, n);
        return n;
    }

    public int taken(int shelf, int k) {
        if (isNoShelf(shelf) || isNoKind(k)) {
            return BAD;
        }
        Shelf held = shelves[shelf];
        if (held.holdsNothing()) {
            return NOTHING_THERE;
        }
        if (held.holdsRow() || !Bodies.isUnder(held.kind, k)) {
            return OTHER_KIND;
        }
        return held.kind;
    }

    public int count(int what) {
        switch (what) {
            case 0:
                return play.size;
            case 1:
                return lettersFed;
            case 2:
                return changes.done;
            case 3:
                return bodies.size;
            case 4:
                return bodies.ran;
            default:
                return BAD;
        }
    }

    private boolean areLines(int pair) {
        return pair >= 0 && play.has(pair / 100) && play.has(pair % 100);
    }

    private static boolean isPart(int number) {
        return number >= 0 && number < PARTS;
    }

    private static boolean isNoShelf(int shelf) {
        return shelf < 0 || shelf >= SHELVES;
    }

    private static boolean isNoKind(int kind) {
        return kind < 0 || kind >= Bodies.KINDS;
    }

    private static boolean isNoFigure(int what) {
        return what < 0 || what > 4;
    }

    /** THE LINES, the PAUSES of the PARTS, WAIT, NERVES and the two LAWS. */
    private static final class Play {
        int size = 0;
        final int[] part = new int[LINES_MOST];
        final int[] cue = new int[LINES_MOST];
        final int[] last = new int[LINES_MOST];
        final int[] seconds = new int[LINES_MOST];
        final int[] tells = new int[LINES_MOST];
        final int[] needs = new int[LINES_MOST];
        final int[] held = new int[LINES_MOST];
        final int[] pause = new int[PARTS];
        // For each WORD the bits of the LINES that have it as their CUE: jumps are asked for often.
        final int[] cued = new int[WORDS];
        int wait = 2;
        int nerves = 0;
        final Law knowing = new Law();
        final Law gaining = new Law();

        static boolean mayBe(int part, int cue, int last, int seconds, int tells) {
            return isPart(part) && cue >= 0 && cue < WORDS && last >= 0 && last < WORDS
                    && seconds >= 1 && seconds <= LONG_MOST && tells >= 0 && tells <= FACTS_MOST;
        }

        boolean isFull() {
            return size >= LINES_MOST;
        }

        boolean has(int number) {
            return number >= 0 && number < size;
        }

        /** The caller has looked at mayBe and isFull. */
        int add(int pcl, int secondsLong, int tellsBits, int needsBits) {
            int number = size;
            part[number] = pcl / 100;
            cue[number] = pcl / 10 % 10;
            last[number] = pcl % 10;
            seconds[number] = secondsLong;
            tells[number] = tellsBits;
            needs[number] = needsBits;
            held[number] = 50;
            cued[cue[number]] |= 1 << number;
            size++;
            return number;
        }

        void change(int what, int number, int v) {
            if (what == Changes.HELD && has(number)) {
                held[number] = v;
            } else if (what == Changes.PAUSE && isPart(number)) {
                pause[number] = v;
            }
        }

        int about(int line, int what) {
            switch (what) {
                case 0:
                    return part[line];
                case 1:
                    return cue[line];
                case 2:
                    return last[line];
                case 3:
                    return seconds[line];
                case 4:
                    return tells[line];
                case 5:
                    return needs[line];
                case 6:
                    return held[line];
                case 7:
                    return knows(line);
                case 8:
                    return gains(line, held[line]);
                case 9:
                    return Integer.bitCount(jumpsFrom(line));
                default:
                    return BAD;
            }
        }

        int linesOfPart(int number) {
            int found = 0;
            for (int i = 0; i < size; i++) {
                if (part[i] == number) {
                    found++;
                }
            }
            return found;
        }

        /** Bits of the LINES to which there is a JUMP from a LINE. */
        int jumpsFrom(int line) {
            return cued[last[line]] & ~(3 << line);
        }

        int ringsFrom(int line) {
            return cued[last[line]] & (1 << line) - 1;
        }

        boolean isJump(int from, int to) {
            return has(from) && has(to) && (jumpsFrom(from) >> to & 1) != 0;
        }

        /** To which LINE one jumps from a LINE; NONE: there are no JUMPS from it. */
        int likeliestJump(int line) {
            int targets = jumpsFrom(line);
            int found = NONE;
            for (int j = 0; j < size; j++) {
                if ((targets >> j & 1) != 0 && (found == NONE || held[j] > held[found])) {
                    found = j;
                }
            }
            return found;
        }

        int knows(int line) {
            int h = held[line];
            int worth = knowing.isTold() ? knowing.worth(this, line, h) : h - 3 * nerves;
            return Math.max(0, Math.min(100, worth));
        }

        int gains(int line, int h) {
            int worth = gaining.isTold() ? gaining.worth(this, line, h) : (100 - h) / 3;
            return Math.max(0, Math.min(100, worth));
        }

        int risk(int line) {
            return (100 - knows(line)) * seconds[line];
        }
    }

    /** A LAW as a row of steps on a stack: a number, or less than 0 the sign of what is to be done. */
    private static final class Law {
        // A minus ahead of an O must differ from the one between two P.
        static final int MINUS = '~';
        // One step for a byte at most, and the end of the last line.
        static final int STEPS_MOST = TAPE_MOST + 1;

        final int[] steps = new int[STEPS_MOST];
        int size = 0;
        private final int[] stack = new int[STEPS_MOST];
        private int height = 0;

        boolean isTold() {
            return size > 0;
        }

        int worth(Play play, int line, int held) {
            height = 0;
            boolean counts = true;
            for (int k = 0; k < size; k++) {
                int step = steps[k];
                if (step >= 0) {
                    push(step);
                } else if (step == -'?') {
                    counts = pop() != 0;
                } else if (step == -';') {
                    int worth = pop();
                    if (counts) {
                        return worth;
                    }
                    counts = true;
                } else {
                    work(-step, play, line, held);
                }
            }
            return 0;
        }

        private void work(int sign, Play play, int line, int held) {
            if (isName(sign)) {
                push(named(sign, play, line, held));
            } else if (sign == '!') {
                push(truth(pop() == 0));
            } else if (sign == MINUS) {
                push(-pop());
            } else {
                int right = pop();
                int left = pop();
                push(joined(left, sign, right));
            }
        }

        private void push(int v) {
            if (height < stack.length) {
                stack[height] = v;
                height++;
            }
        }

        private int pop() {
            if (height <= 0) {
                return 0;
            }
            height--;
            return stack[height];
        }

        static boolean isName(int sign) {
            return sign == 'h' || sign == 'n' || sign == 'p' || sign == 'i' || sign == 'l' || sign == 'c';
        }

        private static int named(int name, Play play, int line, int held) {
            switch (name) {
                case 'h':
                    return held;
                case 'n':
                    return play.nerves;
                case 'p':
                    return play.part[line];
                case 'i':
                    return line;
                case 'l':
                    return play.seconds[line];
                default:
                    return Integer.bitCount(play.cued[play.cue[line]]) - 1;
            }
        }

        private static int joined(int a, int sign, int b) {
            switch (sign) {
                case '|':
                    return truth(a != 0 || b != 0);
                case '&':
                    return truth(a != 0 && b != 0);
                case '<':
                    return truth(a < b);
                case '=':
                    return truth(a == b);
                case '>':
                    return truth(a > b);
                case '+':
                    return a + b;
                case '-':
                    return a - b;
                case '*':
                    return a * b;
                case '/':
                    return b == 0 ? 0 : a / b;
                default:
                    return b == 0 ? 0 : a % b;
            }
        }

        private static int truth(boolean holds) {
            return holds ? 1 : 0;
        }
    }

    /** Reads a TEXT byte by byte into the steps of a LAW, and tells the first byte that does not fit. */
    private static final class LawReader {
        private static final int OPEN_MOST = 6, DIGITS_MOST = 4;
        private static final int COMPARING = 3, UNARY = 6;

        private final int[] made = new int[Law.STEPS_MOST];
        private int size = 0;
        // Signs whose right side is not read to its end.
        private final int[] waiting = new int[TAPE_MOST];
        private int height = 0;
        private int open = 0;
        private int brackets = 0;
        private int digits = 0;
        private boolean wantsOperand = true;
        private boolean asked = false;

        int faultOf(int[] text, int length) {
            clear();
            for (int at = 0; at < length; at++) {
                boolean fits = wantsOperand ? beginsOperand(text[at]) : followsOperand(text[at]);
                if (!fits) {
                    return at;
                }
            }
            return !wantsOperand && endsLine() ? NONE : length;
        }

        void handTo(Law law) {
            System.arraycopy(made, 0, law.steps, 0, size);
            law.size = size;
        }

        private void clear() {
            size = 0;
            height = 0;
            open = 0;
            brackets = 0;
            digits = 0;
            wantsOperand = true;
            asked = false;
        }

        private boolean beginsOperand(int sign) {
            if (isDigit(sign)) {
                addStep(sign - '0');
                digits = 1;
                wantsOperand = false;
                return true;
            }
            if (Law.isName(sign)) {
                addStep(-sign);
                wantsOperand = false;
                return true;
            }
            if (sign != '(' && sign != '!' && sign != '-' || open >= OPEN_MOST) {
                return false;
            }
            open++;
            if (sign == '(') {
                brackets++;
            }
            addWaiting(sign == '-' ? Law.MINUS : sign);
            return true;
        }

        private boolean followsOperand(int sign) {
            if (isDigit(sign)) {
                return addDigit(sign - '0');
            }
            digits = 0;
            if (sign == ')') {
                return closesBracket();
            }
            if (sign == '?') {
                return endsCondition();
            }
            return sign == ';' ? endsLine() : joins(sign);
        }

        private boolean addDigit(int digit) {
            if (digits < 1 || digits >= DIGITS_MOST || size < 1) {
                return false;
            }
            made[size - 1] = made[size - 1] * 10 + digit;
            digits++;
            return true;
        }

        private boolean closesBracket() {
            if (brackets == 0) {
                return false;
            }
            settle(1);
            height--;
            brackets--;
            open--;
            return true;
        }

        private boolean endsCondition() {
            if (brackets > 0 || asked) {
                return false;
            }
            settle(1);
            addStep(-'?');
            asked = true;
            wantsOperand = true;
            return true;
        }

        private boolean endsLine() {
            if (brackets > 0) {
                return false;
            }
            settle(1);
            addStep(-';');
            asked = false;
            wantsOperand = true;
            return true;
        }

        private boolean joins(int sign) {
            int strength = strengthOf(sign);
            if (strength == 0 || strength == UNARY) {
                return false;
            }
            // S < S stands alone in a B: a second one there is no TEXT.
            settle(strength == COMPARING ? strength + 1 : strength);
            if (strength == COMPARING && height > 0 && strengthOf(waiting[height - 1]) == COMPARING) {
                return false;
            }
            addWaiting(sign);
            wantsOperand = true;
            return true;
        }

        /** Signs that bind at least so strongly have their right side now; a bracket binds by 0. */
        private void settle(int strength) {
            while (height > 0 && strengthOf(waiting[height - 1]) >= strength) {
                height--;
                addStep(-waiting[height]);
                if (strengthOf(waiting[height]) == UNARY) {
                    open--;
                }
            }
        }

        private void addWaiting(int sign) {
            if (height < waiting.length) {
                waiting[height] = sign;
                height++;
            }
        }

        private void addStep(int step) {
            if (size < made.length) {
                made[size] = step;
                size++;
            }
        }

        private static boolean isDigit(int sign) {
            return sign >= '0' && sign <= '9';
        }

        private static int strengthOf(int sign) {
            switch (sign) {
                case '|':
                    return 1;
                case '&':
                    return 2;
                case '<':
                case '=':
                case '>':
                    return COMPARING;
                case '+':
                case '-':
                    return 4;
                case '*':
                case '/':
                case '%':
                    return 5;
                case '!':
                case Law.MINUS:
                    return UNARY;
                default:
                    return 0;
            }
        }
    }

    /** A NIGHT as it was said; size 0: none was. */
    private static final class Night {
        private static final int MOST = 60;
        private static final int RIGHT = 0, JUMPED = 1, DRIED = 2;

        int size = 0;
        private final int[] line = new int[MOST];
        private final int[] how = new int[MOST];
        private final int[] lacked = new int[MOST];
        private int seconds = 0;
        private int jumped = 0;
        private int lacking = 0;
        private int dried = 0;
        // KNOWS stays through a night, and costs a law's working out.
        private final int[] knows = new int[LINES_MOST];

        void learn(Play play) {
            for (int i = 0; i < play.size; i++) {
                knows[i] = play.knows(i);
            }
        }

        /** Behind learn(); gives the z with which the next NIGHT would go on. */
        int perform(Play play, int seed) {
            clear();
            int z = seed;
            int at = NONE;
            int told = 0;
            for (int k = 0; k < MOST && at < play.size - 1; k++) {
                z = z * 1103515245 + 12345;
                int next = at + 1;
                int manner = RIGHT;
                if ((z >>> 8) % 100 >= knows[next]) {
                    int jump = at == NONE ? NONE : play.likeliestJump(at);
                    manner = jump == NONE ? DRIED : JUMPED;
                    next = jump == NONE ? next : jump;
                }
                say(play, next, manner, told);
                told |= play.tells[next];
                at = next;
            }
            return z;
        }

        private void clear() {
            size = 0;
            seconds = 0;
            jumped = 0;
            lacking = 0;
            dried = 0;
        }

        private void say(Play play, int number, int manner, int told) {
            line[size] = number;
            how[size] = manner;
            lacked[size] = play.needs[number] & ~told;
            seconds += play.pause[play.part[number]] + play.seconds[number];
            if (lacked[size] != 0) {
                lacking++;
            }
            if (manner == JUMPED) {
                jumped++;
            }
            if (manner == DRIED) {
                dried++;
                seconds += play.wait;
            }
            size++;
        }

        int figure(int what) {
            switch (what) {
                case 0:
                    return size;
                case 1:
                    return seconds;
                case 2:
                    return jumped;
                case 3:
                    return lacking;
                default:
                    return dried;
            }
        }

        int about(int k, int what) {
            if (what == 0) {
                return line[k];
            }
            return what == 1 ? how[k] : lacked[k];
        }
    }

    /** The shortest way back, searched breadth first over pairs of a LINE and the FACTS told. */
    private static final class WayBack {
        private static final int FACT_SETS = FACTS_MOST + 1;
        private static final int LINE_BITS = 5, STATE_BITS = 13;

        // For each set of FACTS told the bits of the LINES that were reached with it.
        private final int[] reached = new int[FACT_SETS];
        // LINE, FACTS and above them the place of the one ahead, in one int, to keep memory small.
        private final int[] queue = new int[FACT_SETS * LINES_MOST + 1];
        private int filled = 0;

        /** How many LINES it takes; NONE: there is no way. */
        int search(Play play, int from, int target) {
            Arrays.fill(reached, 0);
            int told = 0;
            for (int k = 0; k <= from; k++) {
                told |= play.tells[k];
            }
            filled = 0;
            add(from, told, 0);
            for (int at = 0; at < filled && at < queue.length; at++) {
                if (reaches(play, at, target)) {
                    return stepsTo(filled - 1);
                }
            }
            return NONE;
        }

        /** By rising numbers, so that the first row found of a length is the first by numbers. */
        private boolean reaches(Play play, int at, int target) {
            int line = lineOf(at);
            int told = queue[at] >> LINE_BITS & FACTS_MOST;
            int steps = play.jumpsFrom(line) | 2 << line;
            for (int next = 0; next < play.size; next++) {
                if ((steps >> next & 1) == 0 || (play.needs[next] & ~told) != 0) {
                    continue;
                }
                int toldThen = told | play.tells[next];
                if (next == target) {
                    add(next, toldThen, at);
                    return true;
                }
                if ((reached[toldThen] >> next & 1) == 0) {
                    reached[toldThen] |= 1 << next;
                    add(next, toldThen, at);
                }
            }
            return false;
        }

        private void add(int line, int told, int ahead) {
            if (filled < queue.length) {
                queue[filled] = line | told << LINE_BITS | ahead << STATE_BITS;
                filled++;
            }
        }

        private int lineOf(int at) {
            return queue[at] & (1 << LINE_BITS) - 1;
        }

        private int stepsTo(int end) {
            int at = end;
            for (int steps = 0; steps < queue.length; steps++) {
                if (at <= 0) {
                    return steps;
                }
                at = queue[at] >> STATE_BITS;
            }
            return NONE;
        }

        /** The k-th LINE of the way that search() found. */
        int lineAt(int steps, int k) {
            int at = filled - 1;
            for (int left = steps - 1; left > k; left--) {
                at = queue[at] >> STATE_BITS;
            }
            return lineOf(at);
        }
    }

    /** Evenings in thought: HELD here is not the play's. */
    private static final class Evenings {
        int harm = 0;
        final int[] times = new int[LINES_MOST];
        private final int[] held = new int[LINES_MOST];
        private final int[] weight = new int[LINES_MOST];
        // By how much HELD would be more if the LINE was rehearsed next.
        private final int[] gain = new int[LINES_MOST];

        void begin(Play play) {
            harm = 0;
            for (int i = 0; i < play.size; i++) {
                times[i] = 0;
                held[i] = play.held[i];
                int jumpsAhead = i == 0 ? 0 : Integer.bitCount(play.jumpsFrom(i - 1));
                weight[i] = play.seconds[i] + jumpsAhead;
                harm += (HELD_MOST - held[i]) * weight[i];
                foresee(play, i);
            }
        }

        /** Behind begin(). */
        void spend(Play play, int n) {
            for (int evening = 0; evening < n; evening++) {
                int best = 0;
                for (int i = 1; i < play.size; i++) {
                    if (gain[i] * weight[i] > gain[best] * weight[best]) {
                        best = i;
                    }
                }
                harm -= gain[best] * weight[best];
                times[best]++;
                held[best] += gain[best];
                foresee(play, best);
            }
        }

        private void foresee(Play play, int line) {
            gain[line] = Math.min(HELD_MOST - held[line], play.gains(line, held[line]));
        }
    }

    /** Which LINES to cut. */
    private static final class Cutting {
        private static final int SETS_MOST = 2000;

        int bits = 0;
        int rings = 0;
        private int seconds = 0;

        /** Sets come by rising bits, so that of like ones the first found stays. */
        boolean find(Play play, int n) {
            boolean found = false;
            int set = (1 << n) - 1;
            for (int k = 0; k < SETS_MOST && set < 1 << play.size; k++) {
                if (leavesNeedsTold(play, set)) {
                    weigh(play, set, !found);
                    found = true;
                }
                if (set == 0) {
                    return found;
                }
                set = nextSet(set);
            }
            return found;
        }

        private void weigh(Play play, int set, boolean first) {
            int ringsLeft = 0;
            int secondsCut = 0;
            for (int i = 0; i < play.size; i++) {
                if ((set >> i & 1) != 0) {
                    secondsCut += play.seconds[i];
                } else {
                    ringsLeft += Integer.bitCount(play.ringsFrom(i) & ~set);
                }
            }
            if (first || ringsLeft < rings || ringsLeft == rings && secondsCut > seconds) {
                bits = set;
                rings = ringsLeft;
                seconds = secondsCut;
            }
        }

        private static boolean leavesNeedsTold(Play play, int set) {
            int told = 0;
            for (int i = 0; i < play.size; i++) {
                if ((set >> i & 1) == 0) {
                    if ((play.needs[i] & ~told) != 0) {
                        return false;
                    }
                    told |= play.tells[i];
                }
            }
            return true;
        }

        /** The next greater number with as many bits. */
        private static int nextSet(int set) {
            int lowest = set & -set;
            if (lowest == 0) {
                return set;
            }
            int raised = set + lowest;
            return raised | ((set ^ raised) / lowest >> 2);
        }
    }

    /** AN IMAGE; size NONE: there is none. */
    private static final class Image {
        int size = NONE;
        private final int[] held = new int[LINES_MOST];
        private int wait = 0;
        private int nerves = 0;

        void take(Play play) {
            size = play.size;
            System.arraycopy(play.held, 0, held, 0, size);
            wait = play.wait;
            nerves = play.nerves;
        }

        void giveBack(Play play) {
            System.arraycopy(held, 0, play.held, 0, size);
            play.wait = wait;
            play.nerves = nerves;
        }
    }

    /** CHANGES that can be undone (the first done of them) and done again (those up to known). */
    private static final class Changes {
        static final int HELD = 0, PAUSE = 1;
        private static final int MOST = 40;

        int done = 0;
        int known = 0;
        private final int[] what = new int[MOST];
        private final int[] number = new int[MOST];
        private final int[] before = new int[MOST];
        private final int[] after = new int[MOST];

        void note(int changeOf, int whose, int from, int to) {
            if (done >= MOST) {
                dropOldest();
            }
            what[done] = changeOf;
            number[done] = whose;
            before[done] = from;
            after[done] = to;
            done++;
            known = done;
        }

        private void dropOldest() {
            System.arraycopy(what, 1, what, 0, MOST - 1);
            System.arraycopy(number, 1, number, 0, MOST - 1);
            System.arraycopy(before, 1, before, 0, MOST - 1);
            System.arraycopy(after, 1, after, 0, MOST - 1);
            done = MOST - 1;
        }

        boolean stepBack(Play play) {
            if (done <= 0) {
                return false;
            }
            done--;
            play.change(what[done], number[done], before[done]);
            return true;
        }

        boolean stepOn(Play play) {
            if (done >= known) {
                return false;
            }
            play.change(what[done], number[done], after[done]);
            done++;
            return true;
        }

        void forget() {
            done = 0;
            known = 0;
        }
    }

    /** BODIES by number, and their acts, which come from the KIND or from one above it. */
    private static final class Bodies {
        static final int KINDS = 8;
        private static final int MOST = 50, ACTS = 4, TRAIL_MOST = 24, DEPTH_MOST = 30;
        private static final int CUES = 0, HOLDS = 1, JUMPS = 2, PROMPTS = 3;
        private static final int TURN = 0, RIGHT = 1, DRIED = 2, JUMPED = 3, PAUSED = 4, RINGED = 5;
        private static final int SAVED = 6, OTHERWISE = 7;
        private static final int[] ABOVE = {NONE, TURN, TURN, DRIED, RIGHT, JUMPED, TURN, SAVED};
        // A row for each KIND: its own bodies of cues, holds, jumps, prompts; 0: none of its own.
        private static final int[] OWN = {
            1, 10, 11, 2,
            20, 0, 0, 0,
            0, 30, 0, 0,
            0, 41, 40, 0,
            0, 0, 0, 50,
            0, 0, 60, 61,
            70, 0, 0, 0,
            81, 80, 0, 0};

        int size = 0;
        int ran = 0;
        final int[] kinds = new int[MOST];
        final int[] trail = new int[TRAIL_MOST];
        private int number = 0;

        boolean isFull() {
            return size >= MOST;
        }

        boolean has(int body) {
            return body >= 0 && body < size;
        }

        int add(int kind) {
            kinds[size] = kind;
            size++;
            return size - 1;
        }

        int traced() {
            return Math.min(ran, TRAIL_MOST);
        }

        static boolean isUnder(int kind, int upper) {
            int at = kind;
            for (int k = 0; k < KINDS && at != NONE; k++) {
                if (at == upper) {
                    return true;
                }
                at = ABOVE[at];
            }
            return false;
        }

        int perform(int body, int act, int x) {
            ran = 0;
            if (!has(body) || act < 0 || act >= ACTS) {
                return 0;
            }
            number = body;
            return own(act, x, 0);
        }

        private int own(int act, int x, int depth) {
            return from(kinds[number], act, x, depth + 1);
        }

        private int above(int kind, int act, int x, int depth) {
            return from(ABOVE[kind], act, x, depth + 1);
        }

        private int from(int kind, int act, int x, int depth) {
            int at = kind;
            for (int k = 0; k < KINDS && at != NONE; k++) {
                int found = OWN[at * ACTS + act];
                if (found != 0) {
                    return depth > DEPTH_MOST ? 0 : begun(found, x, depth);
                }
                at = ABOVE[at];
            }
            return 0;
        }

        private int begun(int found, int x, int depth) {
            if (ran < TRAIL_MOST) {
                trail[ran] = found;
            }
            ran++;
            switch (found) {
                case 1:
                    return x + number;
                case 2:
                    return own(HOLDS, x, depth) - own(JUMPS, 1, depth);
                case 10:
                    return own(CUES, x, depth) * 2;
                case 11:
                    return x ^ number;
                case 20:
                    return above(RIGHT, CUES, x, depth) + 3;
                case 30:
                    return -above(DRIED, HOLDS, x, depth);
                case 40:
                    return above(JUMPED, JUMPS, x, depth) * 3;
                case 41:
                    return above(JUMPED, HOLDS, x + 1, depth);
                case 50:
                    return above(PAUSED, PROMPTS, x, depth) ^ 5;
                case 60:
                    return above(RINGED, JUMPS, x, depth) - own(CUES, 2, depth);
                case 61:
                    return above(RINGED, PROMPTS, x, depth) + 1;
                case 70:
                    return above(SAVED, CUES, x, depth) * 2;
                case 80:
                    return above(OTHERWISE, HOLDS, x, depth) + own(JUMPS, 2, depth);
                case 81:
                    return above(OTHERWISE, CUES, x, depth) - 1;
                default:
                    return 0;
            }
        }
    }

    /** A SHELF: nothing, a BODY or a ROW, whose elements are used again for its next ROW. */
    private static final class Shelf {
        static final int MOST = 60;
        static final int BYTES = 0, SHORTS = 1, INTS = 2, LONGS = 3, BOOLEANS = 4;
        private static final int NOTHING = 0, BODY = 1, ROW = 2;

        private int holds = NOTHING;
        int kind = 0;
        int sort = 0;
        int size = 0;
        final long[] elements = new long[MOST];

        boolean holdsNothing() {
            return holds == NOTHING;
        }

        boolean holdsRow() {
            return holds == ROW;
        }

        boolean holdsRowOf(int wanted) {
            return holds == ROW && sort == wanted;
        }

        void holdNothing() {
            holds = NOTHING;
        }

        void holdBody(int itsKind) {
            holds = BODY;
            kind = itsKind;
        }

        void holdRow(int itsSort, int n) {
            holds = ROW;
            sort = itsSort;
            size = n;
            Arrays.fill(elements, 0L);
        }

        /** Only for ROWS whose elements fit into an int. */
        int intAt(int i) {
            return i >= 0 && i < size ? (int) elements[i] : NONE;
        }

        boolean hasPlaces(int i, int n) {
            return i >= 0 && n >= 0 && n <= size && i <= size - n;
        }

        void store(int i, long v) {
            elements[i] = narrowed(v);
        }

        private long narrowed(long v) {
            switch (sort) {
                case BYTES:
                    return (byte) v;
                case SHORTS:
                    return (short) v;
                case INTS:
                    return (int) v;
                case BOOLEANS:
                    return v != 0 ? 1 : 0;
                default:
                    return v;
            }
        }
    }
}
