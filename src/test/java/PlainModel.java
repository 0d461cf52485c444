import java.util.ArrayList;
import java.util.Arrays;
import java.util.HashSet;
import java.util.List;
import java.util.Set;

/**
 * The document written down once more, slowly and by other means than the class: brute force for
 * sets and ways, a recursive reader for laws, real Java classes for the bodies, real arrays for rows.
 */
final class PlainModel {
    static final int BAD = -1, NOT = -2, FULL = -3, STATE = -5;

    static final class Line {
        int part, cue, last, seconds, tells, needs, held = 50;
    }

    record Change(int number, int what, int before, int after) { }

    record Said(int line, int how, int lacked) { }

    final List<Line> play = new ArrayList<>();
    final int[] pause = new int[6];
    int wait = 2, nerves = 0;
    final StringBuilder fed = new StringBuilder();
    final String[] laws = new String[2];
    List<Said> night = null;
    int nightSeconds = 0, zThen = 0;
    final List<Change> undone = new ArrayList<>(), done = new ArrayList<>();
    int[] imageHeld = null;
    int imageWait, imageNerves;
    final List<Turn> bodies = new ArrayList<>();
    final Object[] shelves = new Object[6];

    private boolean in(int v, int low, int high) {
        return v >= low && v <= high;
    }

    private boolean isLine(int i) {
        return in(i, 0, play.size() - 1);
    }

    // ---- the play

    int line(int pcl, int seconds, int tn) {
        if (!in(pcl, 0, 599) || !in(seconds, 1, 30) || tn < 0 || tn / 1000 > 255 || tn % 1000 > 255) {
            return BAD;
        }
        if (play.size() == 20) {
            return FULL;
        }
        Line l = new Line();
        l.part = pcl / 100;
        l.cue = pcl % 100 / 10;
        l.last = pcl % 10;
        l.seconds = seconds;
        l.tells = tn / 1000;
        l.needs = tn % 1000;
        play.add(l);
        return play.size() - 1;
    }

    int lines(int shelf, int i, int n) {
        if (!in(shelf, 0, 5) || !in(n, 1, 12)) {
            return BAD;
        }
        if (shelves[shelf] == null) {
            return 0;
        }
        if (!(shelves[shelf] instanceof short[] r)) {
            return -12;
        }
        int came = 0;
        for (long at = i; came < n && at >= 0 && at + 5 <= r.length; at += 5) {
            int a = (int) at;
            if (!in(r[a + 1], 0, 9) || !in(r[a + 2], 0, 9) || !in(r[a], 0, 5) || !in(r[a + 4], 0, 255)) {
                break;
            }
            if (line(r[a] * 100 + r[a + 1] * 10 + r[a + 2], r[a + 3], r[a + 4] * 1000) < 0) {
                break;
            }
            came++;
        }
        return came;
    }

    int feed(int letter) {
        if (!in(letter, 0, 255)) {
            return BAD;
        }
        if (fed.length() == 120) {
            return FULL;
        }
        fed.append((char) letter);
        return fed.length();
    }

    int law(int which) {
        if (!in(which, 0, 1)) {
            return BAD;
        }
        String text = fed.toString();
        fed.setLength(0);
        PlainLaw reader = new PlainLaw(text, new int[128]);
        try {
            reader.worth();
        } catch (PlainLaw.Fault f) {
            return -100 - f.place;
        }
        laws[which] = text;
        return 1;
    }

    int set(int what, int v) {
        if (!in(what, 0, 1) || !in(v, 0, 9)) {
            return BAD;
        }
        int was = what == 0 ? wait : nerves;
        if (what == 0) {
            wait = v;
        } else {
            nerves = v;
        }
        return was;
    }

    private void assign(int number, int what, int v) {
        if (what == 0) {
            play.get(number).held = v;
        } else {
            pause[number] = v;
        }
    }

    int mend(int number, int what, int v) {
        boolean ok = what == 0 && isLine(number) && in(v, 0, 100) || what == 1 && in(number, 0, 5) && in(v, 0, 9);
        if (!ok) {
            return BAD;
        }
        int was = what == 0 ? play.get(number).held : pause[number];
        if (was == v) {
            return was;
        }
        undone.clear();
        done.add(new Change(number, what, was, v));
        if (done.size() > 40) {
            done.remove(0);
        }
        assign(number, what, v);
        return was;
    }

    private int byLaw(int which, int i, int held) {
        Line l = play.get(i);
        int[] names = new int[128];
        names['h'] = held;
        names['n'] = nerves;
        names['p'] = l.part;
        names['i'] = i;
        names['l'] = l.seconds;
        for (int j = 0; j < play.size(); j++) {
            if (j != i && play.get(j).cue == l.cue) {
                names['c']++;
            }
        }
        int v;
        if (laws[which] != null) {
            v = new PlainLaw(laws[which], names).worth();
        } else {
            v = which == 0 ? held - 3 * nerves : (100 - held) / 3;
        }
        return v < 0 ? 0 : v > 100 ? 100 : v;
    }

    private int knows(int i) {
        return byLaw(0, i, play.get(i).held);
    }

    private boolean jump(int i, int j) {
        return play.get(j).cue == play.get(i).last && j != i && j != i + 1;
    }

    int of(int number, int what) {
        if (what == 10 || what == 11) {
            if (!in(number, 0, 5)) {
                return BAD;
            }
            return what == 10 ? pause[number] : (int) play.stream().filter(l -> l.part == number).count();
        }
        if (!isLine(number) || !in(what, 0, 9)) {
            return BAD;
        }
        Line l = play.get(number);
        int jumps = 0;
        for (int j = 0; j < play.size(); j++) {
            jumps += jump(number, j) ? 1 : 0;
        }
        return new int[] {l.part, l.cue, l.last, l.seconds, l.tells, l.needs, l.held, knows(number),
            byLaw(1, number, l.held), jumps}[what];
    }

    int rehearse(int line) {
        if (!isLine(line)) {
            return BAD;
        }
        Line l = play.get(line);
        l.held = Math.min(100, l.held + byLaw(1, line, l.held));
        return l.held;
    }

    // ---- jumps, ways back

    int jumps(int kind, int k) {
        if (!in(kind, 0, 1)) {
            return BAD;
        }
        List<Integer> all = new ArrayList<>();
        for (int i = 0; i < play.size(); i++) {
            for (int j = 0; j < play.size(); j++) {
                if (jump(i, j) && (kind == 0 || j < i)) {
                    all.add(100 * i + j);
                }
            }
        }
        if (k == -1) {
            return all.size();
        }
        return in(k, 0, all.size() - 1) ? all.get(k) : BAD;
    }

    int behind(int ij) {
        if (ij < 0 || !isLine(ij / 100) || !isLine(ij % 100)) {
            return BAD;
        }
        if (!jump(ij / 100, ij % 100)) {
            return NOT;
        }
        List<Integer> row = new ArrayList<>();
        for (int k = 0; k <= ij / 100; k++) {
            row.add(k);
        }
        for (int k = ij % 100; k < play.size(); k++) {
            row.add(k);
        }
        int bits = 0;
        for (int k = 0; k < row.size(); k++) {
            for (int fact = 0; fact < 8; fact++) {
                boolean told = false;
                for (int a = 0; a < k; a++) {
                    told |= (play.get(row.get(a)).tells >> fact & 1) == 1;
                }
                if ((play.get(row.get(k)).needs >> fact & 1) == 1 && !told) {
                    bits |= 1 << fact;
                }
            }
        }
        return bits;
    }

    /** Levels of whole rows in order of their numbers; a row whose end and facts came already is dropped. */
    private List<Integer> wayBack(int from, int target) {
        Set<Integer> seen = new HashSet<>();
        List<List<Integer>> level = new ArrayList<>();
        level.add(new ArrayList<>());
        while (!level.isEmpty()) {
            List<List<Integer>> deeper = new ArrayList<>();
            for (List<Integer> row : level) {
                int told = 0;
                for (int k = 0; k <= from; k++) {
                    told |= play.get(k).tells;
                }
                for (int k : row) {
                    told |= play.get(k).tells;
                }
                int at = row.isEmpty() ? from : row.get(row.size() - 1);
                for (int next = 0; next < play.size(); next++) {
                    if (next != at + 1 && !jump(at, next) || (play.get(next).needs & ~told) != 0) {
                        continue;
                    }
                    List<Integer> longer = new ArrayList<>(row);
                    longer.add(next);
                    if (next == target) {
                        return longer;
                    }
                    if (seen.add(next * 256 + (told | play.get(next).tells))) {
                        deeper.add(longer);
                    }
                }
            }
            level = deeper;
        }
        return null;
    }

    int way(int it, int k) {
        if (it < 0 || !isLine(it / 100) || !isLine(it % 100) || k < -1) {
            return BAD;
        }
        List<Integer> row = wayBack(it / 100, it % 100);
        if (row == null) {
            return NOT;
        }
        if (k == -1) {
            return row.size();
        }
        return k < row.size() ? row.get(k) : BAD;
    }

    // ---- nights

    private List<Said> perform(int seed) {
        List<Said> out = new ArrayList<>();
        int z = seed, at = -1, seconds = 0;
        while (at != play.size() - 1 && out.size() < 60) {
            z = z * 1103515245 + 12345;
            int how = 0, line = at + 1;
            if ((z >>> 8) % 100 >= knows(line)) {
                int best = -1;
                for (int j = play.size() - 1; j >= 0 && at >= 0; j--) {
                    if (jump(at, j) && (best < 0 || play.get(j).held >= play.get(best).held)) {
                        best = j;
                    }
                }
                how = best < 0 ? 2 : 1;
                line = best < 0 ? line : best;
            }
            int lacked = play.get(line).needs;
            for (Said s : out) {
                lacked &= ~play.get(s.line()).tells;
            }
            seconds += pause[play.get(line).part] + play.get(line).seconds + (how == 2 ? wait : 0);
            out.add(new Said(line, how, lacked));
            at = line;
        }
        zThen = z;
        nightSecondsThen = seconds;
        return out;
    }

    private int nightSecondsThen = 0;

    private static int figure(List<Said> night, int seconds, int what) {
        return switch (what) {
            case 0 -> night.size();
            case 1 -> seconds;
            case 2 -> (int) night.stream().filter(s -> s.how() == 1).count();
            case 3 -> (int) night.stream().filter(s -> s.lacked() != 0).count();
            default -> (int) night.stream().filter(s -> s.how() == 2).count();
        };
    }

    int night(int seed) {
        if (play.isEmpty()) {
            return STATE;
        }
        night = perform(seed);
        nightSeconds = nightSecondsThen;
        return night.size();
    }

    int told(int what) {
        if (!in(what, 0, 4)) {
            return BAD;
        }
        return night == null ? STATE : figure(night, nightSeconds, what);
    }

    int said(int k, int what) {
        if (k < 0 || !in(what, 0, 2)) {
            return BAD;
        }
        if (night == null) {
            return STATE;
        }
        if (k >= night.size()) {
            return BAD;
        }
        Said s = night.get(k);
        return what == 0 ? s.line() : what == 1 ? s.how() : s.lacked();
    }

    int mean(int seed, int n, int what) {
        if (!in(n, 1, 20) || !in(what, 0, 4)) {
            return BAD;
        }
        if (play.isEmpty()) {
            return STATE;
        }
        int sum = 0;
        zThen = seed;
        for (int k = 0; k < n; k++) {
            List<Said> one = perform(zThen);
            sum += figure(one, nightSecondsThen, what);
        }
        return sum / n;
    }

    int tape(int shelf, int what) {
        if (!in(shelf, 0, 5) || !in(what, 0, 1)) {
            return BAD;
        }
        if (shelves[shelf] == null) {
            return -11;
        }
        if (!(shelves[shelf] instanceof byte[] r)) {
            return -12;
        }
        int jumps = 0;
        for (int k = 0; k < r.length; k++) {
            boolean can = isLine(r[k]);
            if (can && k == 0) {
                can = r[0] == 0;
            } else if (can && r[k] != r[k - 1] + 1) {
                can = jump(r[k - 1], r[k]);
                jumps++;
            }
            if (!can) {
                return what == 0 ? k : STATE;
            }
        }
        return what == 0 ? NOT : jumps;
    }

    // ---- what to do

    int prompt(int part, int what) {
        if (!in(part, 0, 5) || !in(what, 0, 1)) {
            return BAD;
        }
        int best = -1, least = Integer.MAX_VALUE;
        for (int w = 0; w <= 9; w++) {
            int sum = 0;
            for (int i = 0; i < play.size(); i++) {
                if (play.get(i).part == part) {
                    sum += (100 - knows(i)) * w;
                    sum += w < pause[part] ? 5 * knows(i) : 0;
                }
            }
            if (sum < least) {
                least = sum;
                best = w;
            }
        }
        return what == 0 ? best : least;
    }

    private int harm(int[] held) {
        int sum = 0;
        for (int i = 0; i < held.length; i++) {
            sum += (100 - held[i]) * (play.get(i).seconds + (i > 0 ? of(i - 1, 9) : 0));
        }
        return sum;
    }

    int evenings(int n, int line) {
        if (!in(n, 0, 30) || line != -1 && !isLine(line)) {
            return BAD;
        }
        if (play.isEmpty()) {
            return STATE;
        }
        int[] held = play.stream().mapToInt(l -> l.held).toArray();
        int[] times = new int[held.length];
        for (int e = 0; e < n; e++) {
            int best = -1, least = 0;
            for (int i = 0; i < held.length; i++) {
                int[] then = held.clone();
                then[i] = Math.min(100, then[i] + byLaw(1, i, then[i]));
                int harm = harm(then);
                if (best < 0 || harm < least) {
                    best = i;
                    least = harm;
                }
            }
            held[best] = Math.min(100, held[best] + byLaw(1, best, held[best]));
            times[best]++;
        }
        return line == -1 ? harm(held) : times[line];
    }

    /** RINGS, SECONDS cut; null: a NEED of those that are left is not told ahead. */
    private int[] cutWith(int set) {
        List<Integer> left = new ArrayList<>();
        int seconds = 0;
        for (int i = 0; i < play.size(); i++) {
            if ((set >> i & 1) == 0) {
                left.add(i);
            } else {
                seconds += play.get(i).seconds;
            }
        }
        int told = 0, rings = 0;
        for (int i : left) {
            if ((play.get(i).needs | told) != told) {
                return null;
            }
            told |= play.get(i).tells;
            for (int j : left) {
                rings += j < i && play.get(j).cue == play.get(i).last ? 1 : 0;
            }
        }
        return new int[] {rings, seconds};
    }

    int cut(int n, int what) {
        if (!in(n, 0, 3) || !in(what, 0, 1)) {
            return BAD;
        }
        int[] best = null;
        int bits = 0;
        for (int set = 0; set < 1 << play.size(); set++) {
            int[] now = Integer.bitCount(set) == n ? cutWith(set) : null;
            if (now != null && (best == null || now[0] < best[0] || now[0] == best[0] && now[1] > best[1])) {
                best = now;
                bits = set;
            }
        }
        if (best == null) {
            return NOT;
        }
        return what == 0 ? bits : best[0];
    }

    int newspaper(int pn, int what) {
        if (pn < 0 || pn / 10 > 5 || pn % 10 > 5 || !in(what, 0, 1)) {
            return BAD;
        }
        List<Integer> own = new ArrayList<>();
        for (int i = 0; i < play.size(); i++) {
            if (play.get(i).part == pn / 10) {
                own.add(i);
            }
        }
        int[] worth = own.stream().mapToInt(i -> (100 - knows(i)) * play.get(i).seconds).toArray();
        int most = 0, bits = 0;
        for (int choice = 1; choice < 1 << own.size(); choice++) {
            if (Integer.bitCount(choice) > pn % 10) {
                continue;
            }
            int sum = 0, set = 0;
            for (int k = 0; k < own.size(); k++) {
                if ((choice >> k & 1) == 1) {
                    set |= 1 << own.get(k);
                    sum += worth[k];
                }
            }
            if (sum > most || sum == most && set < bits) {
                most = sum;
                bits = set;
            }
        }
        return what == 0 ? bits : most;
    }

    int image() {
        imageHeld = play.stream().mapToInt(l -> l.held).toArray();
        imageWait = wait;
        imageNerves = nerves;
        return play.size();
    }

    int back() {
        if (imageHeld == null) {
            return STATE;
        }
        for (int i = 0; i < imageHeld.length; i++) {
            play.get(i).held = imageHeld[i];
        }
        wait = imageWait;
        nerves = imageNerves;
        done.clear();
        undone.clear();
        return imageHeld.length;
    }

    int undo() {
        if (done.isEmpty()) {
            return STATE;
        }
        Change c = done.remove(done.size() - 1);
        undone.add(c);
        assign(c.number(), c.what(), c.before());
        return done.size();
    }

    int redo() {
        if (undone.isEmpty()) {
            return STATE;
        }
        Change c = undone.remove(undone.size() - 1);
        done.add(c);
        assign(c.number(), c.what(), c.after());
        return undone.size();
    }

    // ---- acts, shelves

    private final List<Integer> ran = new ArrayList<>();

    interface Cues {
        int number();

        void begin(int body);

        default int cues(int x) {
            begin(1);
            return x + number();
        }
    }

    interface Prompts {
        void begin(int body);

        int holds(int x);

        int jumps(int x);

        default int prompts(int x) {
            begin(2);
            return holds(x) - jumps(1);
        }
    }

    static class Turn implements Cues, Prompts {
        int n, kind;
        List<Integer> trace;

        public int number() {
            return n;
        }

        public void begin(int body) {
            trace.add(body);
        }

        public int holds(int x) {
            begin(10);
            return cues(x) * 2;
        }

        public int jumps(int x) {
            begin(11);
            return x ^ n;
        }
    }

    static class Right extends Turn {
        public int cues(int x) {
            begin(20);
            return super.cues(x) + 3;
        }
    }

    static class Dried extends Turn {
        public int holds(int x) {
            begin(30);
            return -super.holds(x);
        }
    }

    static class Jumped extends Dried {
        public int jumps(int x) {
            begin(40);
            return super.jumps(x) * 3;
        }

        public int holds(int x) {
            begin(41);
            return super.holds(x + 1);
        }
    }

    static class Paused extends Right {
        public int prompts(int x) {
            begin(50);
            return super.prompts(x) ^ 5;
        }
    }

    static class Ringed extends Jumped {
        public int jumps(int x) {
            begin(60);
            return super.jumps(x) - cues(2);
        }

        public int prompts(int x) {
            begin(61);
            return super.prompts(x) + 1;
        }
    }

    static class Saved extends Turn {
        public int cues(int x) {
            begin(70);
            return super.cues(x) * 2;
        }
    }

    static class Otherwise extends Saved {
        public int holds(int x) {
            begin(80);
            return super.holds(x) + jumps(2);
        }

        public int cues(int x) {
            begin(81);
            return super.cues(x) - 1;
        }
    }

    private static final Class<?>[] KINDS = {Turn.class, Right.class, Dried.class, Jumped.class, Paused.class,
        Ringed.class, Saved.class, Otherwise.class};

    int body(int kind) {
        if (!in(kind, 0, 7)) {
            return BAD;
        }
        if (bodies.size() == 50) {
            return FULL;
        }
        Turn t = switch (kind) {
            case 0 -> new Turn();
            case 1 -> new Right();
            case 2 -> new Dried();
            case 3 -> new Jumped();
            case 4 -> new Paused();
            case 5 -> new Ringed();
            case 6 -> new Saved();
            default -> new Otherwise();
        };
        t.n = bodies.size();
        t.kind = kind;
        t.trace = ran;
        bodies.add(t);
        return t.n;
    }

    int act(int body, int act, int x) {
        ran.clear();
        if (!in(body, 0, bodies.size() - 1) || !in(act, 0, 3)) {
            return 0;
        }
        Turn t = bodies.get(body);
        return switch (act) {
            case 0 -> t.cues(x);
            case 1 -> t.holds(x);
            case 2 -> t.jumps(x);
            default -> t.prompts(x);
        };
    }

    int trace(int i) {
        return in(i, 0, Math.min(24, ran.size()) - 1) ? ran.get(i) : BAD;
    }

    int keep(int shelf, int body) {
        if (!in(shelf, 0, 5) || !in(body, -1, bodies.size() - 1)) {
            return BAD;
        }
        shelves[shelf] = body == -1 ? null : bodies.get(body);
        return 1;
    }

    int row(int shelf, int sort, int n) {
        if (!in(shelf, 0, 5) || !in(sort, 0, 4) || n > 60) {
            return BAD;
        }
        if (n < 0) {
            return -14;
        }
        shelves[shelf] = switch (sort) {
            case 0 -> new byte[n];
            case 1 -> new short[n];
            case 2 -> new int[n];
            case 3 -> new long[n];
            default -> new boolean[n];
        };
        return 1;
    }

    private int refusal(int shelf, int i) {
        if (!in(shelf, 0, 5)) {
            return BAD;
        }
        Object o = shelves[shelf];
        if (o == null) {
            return -11;
        }
        if (!o.getClass().isArray()) {
            return -12;
        }
        return in(i, 0, java.lang.reflect.Array.getLength(o) - 1) ? 0 : -13;
    }

    int put(int shelf, int i, long v) {
        int no = refusal(shelf, i);
        if (no != 0) {
            return no;
        }
        Object o = shelves[shelf];
        if (o instanceof byte[] a) {
            a[i] = (byte) v;
        } else if (o instanceof short[] a) {
            a[i] = (short) v;
        } else if (o instanceof int[] a) {
            a[i] = (int) v;
        } else if (o instanceof long[] a) {
            a[i] = v;
        } else if (o instanceof boolean[] a) {
            a[i] = v != 0;
        }
        return 1;
    }

    long element(int shelf, int i) {
        if (refusal(shelf, i) != 0) {
            return Long.MIN_VALUE;
        }
        Object o = shelves[shelf];
        return o instanceof boolean[] a ? (a[i] ? 1 : 0) : java.lang.reflect.Array.getLong(o, i);
    }

    /** What the host's own copying refuses is what is to be refused. */
    int shift(int shelf, int i, int other, int j, int n) {
        if (!in(shelf, 0, 5) || !in(other, 0, 5)) {
            return BAD;
        }
        try {
            System.arraycopy(shelves[shelf], i, shelves[other], j, n);
            return n;
        } catch (NullPointerException e) {
            return -11;
        } catch (ArrayStoreException e) {
            return -12;
        } catch (IndexOutOfBoundsException e) {
            return -13;
        }
    }

    int taken(int shelf, int k) {
        if (!in(shelf, 0, 5) || !in(k, 0, 7)) {
            return BAD;
        }
        if (shelves[shelf] == null) {
            return -11;
        }
        return KINDS[k].isInstance(shelves[shelf]) ? ((Turn) shelves[shelf]).kind : -12;
    }

    int count(int what) {
        return in(what, 0, 4)
            ? new int[] {play.size(), fed.length(), done.size(), bodies.size(), ran.size()}[what] : BAD;
    }

    @Override
    public String toString() {
        return "laws " + Arrays.toString(laws) + ", lines " + play.size();
    }

    /** A law's text, read and worked out in one go, as the document's grammar has it. */
    static final class PlainLaw {
        static final class Fault extends RuntimeException {
            final int place;

            Fault(int place) {
                this.place = place;
            }
        }

        private final String text;
        private final int[] names;
        private int at = 0;

        PlainLaw(String text, int[] names) {
            this.text = text;
            this.names = names;
        }

        private char now() {
            return at < text.length() ? text.charAt(at) : '\0';
        }

        private boolean isNow(String signs) {
            return at < text.length() && signs.indexOf(now()) >= 0;
        }

        int worth() {
            Integer result = null;
            while (true) {
                int v = e(0);
                boolean counts = true;
                if (isNow("?")) {
                    at++;
                    counts = v != 0;
                    v = e(0);
                }
                if (result == null && counts) {
                    result = v;
                }
                if (at == text.length()) {
                    return result == null ? 0 : result;
                }
                if (!isNow(";")) {
                    throw new Fault(at);
                }
                at++;
            }
        }

        private int e(int open) {
            int v = a(open);
            while (isNow("|")) {
                at++;
                int w = a(open);
                v = v != 0 || w != 0 ? 1 : 0;
            }
            return v;
        }

        private int a(int open) {
            int v = b(open);
            while (isNow("&")) {
                at++;
                int w = b(open);
                v = v != 0 && w != 0 ? 1 : 0;
            }
            return v;
        }

        private int b(int open) {
            int v = s(open);
            if (isNow("<=>")) {
                char sign = now();
                at++;
                int w = s(open);
                boolean so = sign == '<' ? v < w : sign == '=' ? v == w : v > w;
                return so ? 1 : 0;
            }
            return v;
        }

        private int s(int open) {
            int v = p(open);
            while (isNow("+-")) {
                char sign = now();
                at++;
                int w = p(open);
                v = sign == '+' ? v + w : v - w;
            }
            return v;
        }

        private int p(int open) {
            int v = o(open);
            while (isNow("*/%")) {
                char sign = now();
                at++;
                int w = o(open);
                if (sign == '*') {
                    v = v * w;
                } else if (w == 0) {
                    v = 0;
                } else {
                    v = sign == '/' ? v / w : v % w;
                }
            }
            return v;
        }

        private int o(int open) {
            if (isNow("0123456789")) {
                int start = at;
                while (isNow("0123456789") && at < start + 4) {
                    at++;
                }
                return Integer.parseInt(text.substring(start, at));
            }
            if (isNow("hnpilc")) {
                return names[text.charAt(at++)];
            }
            if (!isNow("(!-") || open == 6) {
                throw new Fault(at);
            }
            char sign = now();
            at++;
            if (sign == '!') {
                return o(open + 1) == 0 ? 1 : 0;
            }
            if (sign == '-') {
                return -o(open + 1);
            }
            int v = e(open + 1);
            if (!isNow(")")) {
                throw new Fault(at);
            }
            at++;
            return v;
        }
    }
}
