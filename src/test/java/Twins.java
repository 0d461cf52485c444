import java.util.ArrayList;
import java.util.List;

/**
 * Two objects led by the same calls; one of them is then asked for what is refused. Both must answer
 * the same to everything from then on. The looking may change them, as it changes both alike.
 */
final class Twins {
    interface Lead {
        void lead(WhoPrompts x);
    }

    interface Call {
        long on(WhoPrompts x);
    }

    private Twins() {
    }

    static void refused(Checks checks, String name, Lead lead, Call call, long want) {
        WhoPrompts asked = new WhoPrompts();
        WhoPrompts left = new WhoPrompts();
        lead.lead(asked);
        lead.lead(left);
        checks.due(name, call.on(asked), want);
        List<String> names = new ArrayList<>();
        List<Long> then = look(asked, names);
        List<Long> without = look(left, new ArrayList<>());
        for (int k = 0; k < Math.max(then.size(), without.size()); k++) {
            long got = k < then.size() ? then.get(k) : 0;
            long due = k < without.size() ? without.get(k) : 0;
            String about = k < names.size() ? names.get(k) : "its end";
            checks.due("behind the refused " + name + ", " + about, got, due);
        }
        checks.due(name + ", as many answers", then.size(), without.size());
    }

    private static List<Long> look(WhoPrompts x, List<String> names) {
        Looker looker = new Looker(x, names);
        looker.atLines();
        looker.atTheNight();
        looker.atShelves();
        looker.atBodies();
        looker.atChanges();
        looker.atImage();
        looker.atTape();
        return looker.seen;
    }

    private static final class Looker {
        final List<Long> seen = new ArrayList<>();
        private final WhoPrompts x;
        private final List<String> names;

        Looker(WhoPrompts x, List<String> names) {
            this.x = x;
            this.names = names;
        }

        private long see(String name, long answer) {
            names.add(name);
            seen.add(answer);
            return answer;
        }

        void atLines() {
            for (int what = 0; what < 5; what++) {
                see("count(" + what + ")", x.count(what));
            }
            for (int i = 0; i < x.count(0); i++) {
                for (int what = 0; what < 9; what++) {
                    see("of(" + i + ", " + what + ")", x.of(i, what));
                }
            }
            for (int part = 0; part < 6; part++) {
                see("PAUSE of " + part, x.of(part, 10));
            }
            see("JUMPS", x.jumps(0, -1));
        }

        void atTheNight() {
            for (int what = 0; what < 5; what++) {
                see("told(" + what + ")", x.told(what));
            }
            for (int k = 0; k < x.told(0) && k < 10; k++) {
                for (int what = 0; what < 3; what++) {
                    see("said(" + k + ", " + what + ")", x.said(k, what));
                }
            }
        }

        void atShelves() {
            for (int shelf = 0; shelf < 6; shelf++) {
                see("taken(" + shelf + ", 0)", x.taken(shelf, 0));
                long element = 0;
                for (int i = 0; i < 60 && element != Long.MIN_VALUE; i++) {
                    element = see("element(" + shelf + ", " + i + ")", x.element(shelf, i));
                }
                // The sort of a ROW shows by what it keeps of a great number.
                see("put(" + shelf + ", 0, ..)", x.put(shelf, 0, 0x123456789ABCDEFL));
                see("kept on " + shelf, x.element(shelf, 0));
            }
        }

        void atBodies() {
            for (int i = 0; i < 11; i++) {
                see("trace(" + i + ")", x.trace(i));
            }
            for (int body = 0; body < x.count(3); body++) {
                see("act(" + body + ", 3, 5)", x.act(body, 3, 5));
            }
        }

        void atChanges() {
            long left = see("redo()", x.redo());
            for (int k = 0; k < 40 && left > 0; k++) {
                left = see("redo() again", x.redo());
            }
            atHeldAndPauses("DONE AGAIN");
            left = see("undo()", x.undo());
            for (int k = 0; k < 40 && left >= 0; k++) {
                left = see("undo() again", x.undo());
                atHeldAndPauses("UNDONE " + k);
            }
        }

        private void atHeldAndPauses(String when) {
            see("HELD of 0, " + when, x.of(0, 6));
            see("HELD of 1, " + when, x.of(1, 6));
            see("PAUSE of 0, " + when, x.of(0, 10));
        }

        void atImage() {
            see("WAIT", x.set(0, 4));
            see("NERVES", x.set(1, 4));
            see("back()", x.back());
            see("HELD of 0 by THE IMAGE", x.of(0, 6));
            see("HELD of 1 by THE IMAGE", x.of(1, 6));
            see("WAIT by THE IMAGE", x.set(0, 3));
            see("NERVES by THE IMAGE", x.set(1, 3));
        }

        void atTape() {
            see("feed('9')", x.feed('9'));
            see("law(0)", x.law(0));
            see("KNOWS of 0 by THE TAPE", x.of(0, 7));
            see("KNOWS of 1 by THE TAPE", x.of(1, 7));
        }
    }
}
