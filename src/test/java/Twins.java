import java.util.ArrayList;
import java.util.List;
import java.util.function.Consumer;
import java.util.function.Predicate;
import java.util.function.ToLongFunction;

/** Two objects with the same past: one is asked a call, the other is not. What differs then, the call changed. */
final class Twins {
    /** A past in which there is some of all: what a refused call could spoil. */
    static final String COMMITTEE = "places 4;corner 1;party a least 2 at 0;party b at 1;party c;"
        + "wants a corner worth 3;shuns b beside a worth 2;wants c facing b worth 4;"
        + "article x takes 2;article y takes 3 odds 8 x;article z takes 1 odds 4 y;";

    private Twins() {
    }

    /** a at 1, b at 2, c stands; DAY 3; x AGREED, y WORKED at for a day; a MARK of a at 0, b at 1 on DAY 0. */
    static void rich(StandTable x) {
        richButTheTape(x);
        Check.feed(x, "places 5;");
    }

    static void richButTheTape(StandTable x) {
        Check.committee(x, COMMITTEE);
        Check.sessions(x, "when agreed x;turn 1;end;day 1;any;");
        x.tray(0, 0, 4);
        x.write(0, 0, 3);
        x.write(0, 1, -1);
        x.write(0, 2, 2);
        x.tray(1, 1, 5);
        x.write(1, 4, 77);
        x.tray(2, 0, 2);
        x.luck(1);
        x.mark();
        x.turn(1);
        x.live(7);
        x.rise(2);
        x.day(2);
        Check.sessions(x, "turn 99;");
    }

    static void none(StandTable x) {
    }

    /** A call that is refused: NONE and its STATUS, and nothing else has changed. */
    static void refused(String what, Consumer<StandTable> past, ToLongFunction<StandTable> call, int status) {
        leaves(what, past, call, StandTable.NONE, status);
    }

    /** The same of a call that answers false. */
    static void denied(String what, Consumer<StandTable> past, Predicate<StandTable> call, int status) {
        leaves(what, past, x -> call.test(x) ? 1 : 0, 0, status);
    }

    /** A call that changes nothing but STATUS. */
    static void leaves(String what, Consumer<StandTable> past, ToLongFunction<StandTable> call, long due,
            int status) {
        for (Last last : Last.values()) {
            StandTable asked = after(past);
            ahead(asked, status);
            Check.due(asked, what, call.applyAsLong(asked), due, status);
            same(what, State.of(asked, last, true), State.of(after(past), last, true));
        }
    }

    /** A text that is refused with a FAULT: the tape is empty, fault() tells it, and nothing else has changed. */
    static void faulty(String what, Consumer<StandTable> past, ToLongFunction<StandTable> call, int kind,
            int place) {
        StandTable asked = after(past);
        ahead(asked, 9);
        Check.refused(asked, what, call.applyAsLong(asked), 9);
        Check.due(what + ": fault(0)", asked.fault(0), kind);
        Check.due(what + ": fault(1)", asked.fault(1), place);
        Check.refused(asked, what + ": the tape is empty", asked.committee(1), 1);
        same(what, State.of(asked, Last.NAMES, false), State.of(after(past), Last.NAMES, false));
    }

    /** A call with its answer and STATUS, behind which all is as by another way. */
    static void comesTo(String what, Consumer<StandTable> past, ToLongFunction<StandTable> call, long due,
            Consumer<StandTable> otherWay) {
        for (Last last : Last.values()) {
            StandTable asked = after(past);
            ahead(asked, 0);
            Check.due(asked, what, call.applyAsLong(asked), due, 0);
            StandTable other = after(past);
            otherWay.accept(other);
            same(what, State.of(asked, last, true), State.of(other, last, true));
        }
    }

    private static StandTable after(Consumer<StandTable> past) {
        StandTable x = new StandTable();
        past.accept(x);
        return x;
    }

    /** Another STATUS than the call is to have, so that it must tell its own. */
    private static void ahead(StandTable x, int status) {
        x.told(status == 0 ? -1 : 0);
    }

    private static void same(String what, List<String> asked, List<String> left) {
        Check.due(what + ": numbers of the state", asked.size(), left.size());
        for (int i = 0; i < Math.min(asked.size(), left.size()); i++) {
            Check.due(what + " changed " + left.get(i) + " to " + asked.get(i), asked.get(i).equals(left.get(i)),
                true);
        }
    }

    /** What is looked at last, as each look spoils the other's. */
    enum Last { TAPE, NAMES }

    /** All that the calls tell of an object; it is spent then. */
    private static final class State {
        private final StandTable x;
        private final List<String> told = new ArrayList<>();

        private State(StandTable x) {
            this.x = x;
        }

        static List<String> of(StandTable x, Last last, boolean texts) {
            State s = new State(x);
            s.tell("top", x.top());
            s.tell("bottom", x.bottom());
            if (texts) {
                s.tell("fault(0)", x.fault(0));
                s.tell("fault(1)", x.fault(1));
            }
            s.committee();
            s.trays();
            s.life();
            if (last == Last.TAPE) {
                s.tape();
            } else {
                s.names();
            }
            s.marks();
            return s.told;
        }

        private void tell(String what, long number) {
            told.add(what + " " + number);
        }

        private void committee() {
            for (int what = 0; what <= 9; what++) {
                tell("told " + what, x.told(what));
            }
            for (int p = 0; p < x.told(1); p++) {
                tell("place of " + p, x.placeOf(p));
                tell("least of " + p, x.least(p));
            }
            for (int k = 0; k < x.told(2); k++) {
                tell("wish " + k, ((x.wish(k, 0) * 10L + x.wish(k, 1)) * 10 + x.wish(k, 2)) * 100 + x.wish(k, 3));
            }
            for (int i = 0; i < x.told(3); i++) {
                tell("article " + i, (x.article(i, 0) * 100L + x.article(i, 1)) * 1000 + x.article(i, 2));
                tell("worked at " + i, x.article(i, 3) * 10L + x.article(i, 4));
            }
        }

        private void trays() {
            for (int t = 0; t < 4; t++) {
                for (int p = 0; p < 7; p++) {
                    tell("number " + p + " of " + t, x.read(t, p));
                    tell("status", x.status());
                    if (x.status() != 0) {
                        break;
                    }
                }
                x.write(t, 0, 0x8182838485868788L);
                tell("sort of " + t, x.read(t, 0));
            }
        }

        private void lived() {
            for (int what = 0; what < 5; what++) {
                tell("lived " + what, x.lived(what));
            }
        }

        private void life() {
            lived();
            tell("live", x.live(3));
            tell("status", x.status());
            lived();
            tell("sit", x.told(6) * 8L + x.told(7));
            tell("agreed", x.told(8) * 100000L + x.told(4));
        }

        private void tape() {
            int many = x.feed(0x20202020, 0x20202020, 0x20202020, 0x20202020, 0x20202020);
            tell("tape", many);
            tell("text on it", x.committee(many == -1 ? 900 : many));
            tell("places of it", x.told(0));
            tell("fault of it", x.fault(0) * 1000L + x.fault(1));
        }

        private void names() {
            x.sessions(0);
            for (String step : new String[] {"rise a;rise b;rise c;agree x;agree y;", "agree a;", "rise x;", "rise p;"}) {
                tell("names in " + step, Check.sessions(x, step));
                tell("fault", x.fault(0) * 1000L + x.fault(1));
            }
        }

        private void marks() {
            for (int left = x.undo(); left != StandTable.NONE; left = x.undo()) {
                tell("marks left", left);
                committee();
                tell("live", x.live(5));
                tell("status", x.status());
                tell("sit", x.told(6) * 8L + x.told(7));
            }
        }
    }
}
