import java.util.ArrayList;
import java.util.List;
import java.util.NoSuchElementException;

/**
 * Every call that is refused, in every state in which it is: what it throws, and that an object goes
 * on behind it as one does that was not called.
 */
public final class RefusedCallsTest {
    /** What has been done to the object before the refused call. */
    private enum State { NEW, UNCHECKED, BAD, CHECKED, RUNNING, DEEP, STOPPED, DONE, DONE_REAL,
        DONE_WITHOUT, TRAPPED }

    private interface Call {
        void on(StackForge x);
    }

    private static final int[] NO_INDEX = {Integer.MIN_VALUE, -1, 64, Integer.MAX_VALUE};
    private static final Class<?> STATE = IllegalStateException.class;
    private static final Class<?> BOUNDS = IndexOutOfBoundsException.class;
    private static final Class<?> UNSUPPORTED = UnsupportedOperationException.class;
    private static final Class<?> ELEMENT = NoSuchElementException.class;

    public static void main(String[] args) {
        states();
        for (State state : State.values()) {
            numbersOutOfRange(state);
            always(state);
        }
        whileRunning(State.RUNNING);
        whileRunning(State.DEEP);
        for (State state : State.values()) {
            if (state != State.RUNNING && state != State.DEEP) {
                notRunning(state);
            }
        }
        results();
        notChecked();
        Trial.finish();
    }

    private static StackForge in(State state) {
        StackForge x = new StackForge();
        if (state == State.NEW) {
            return x;
        }
        x.table(2, 5);
        // An int -> 100 / it, which is kept in GLOBAL 0 and in MEMORY too.
        Trial.define(x, 0, 1, 1, 0, 15, 0, 19, 0, 20, 3, 15, 0, 27, 8, 20, 100, 15, 0, 33, 6);
        Trial.define(x, 1, 13, 3, 2, 15, 0, 11, 0, 19, 0, 15, 1, 17, 1, 19, 2, 15, 1, 6);
        Trial.define(x, 2, 1, 0, 0, 15, 0, 19, 0, 6);
        Trial.define(x, 3, 12, 2, 3, Trial.join(Trial.repeat(57, 1), Trial.row(15, 1, 6)));
        x.shape(4, 11, 1, 23);
        if (state == State.BAD) {
            Trial.define(x, 5, 0, 0, 0, 1, 13, 6);
        }
        if (state != State.UNCHECKED && state != State.BAD) {
            x.check();
        }
        goOn(x, state);
        x.argue(9);
        x.argue(-6);
        x.argue(7);
        return x;
    }

    private static void states() {
        int[] phases = {0, 0, 0, 0, 1, 1, 0, 2, 2, 2, 3};
        int[] calls = {0, 0, 0, 0, 1, 2, 0, 0, 0, 0, 0};
        int[] steps = {0, 0, 0, 0, 3, 7, 6, 9, 17, 3, 8};
        for (State state : State.values()) {
            StackForge x = in(state);
            Trial.same(state + ": phase", x.count(0), phases[state.ordinal()]);
            Trial.same(state + ": calls", x.count(2), calls[state.ordinal()]);
            Trial.same(state + ": steps", x.count(1), steps[state.ordinal()]);
            Trial.same(state + ": checked", x.count(4), state.compareTo(State.CHECKED) >= 0 ? 1 : 0);
            Trial.same(state + ": arguments", x.count(5), state == State.NEW ? 0 : 3);
        }
    }

    private static void goOn(StackForge x, State state) {
        switch (state) {
            case RUNNING:
                Trial.begin(x, 0, 5);
                x.run(3);
                break;
            case DEEP:
                Trial.begin(x, 1, 5, 6);
                x.run(7);
                break;
            case STOPPED:
                Trial.begin(x, 0, 5);
                x.run(6);
                x.stop();
                break;
            case DONE:
                Trial.begin(x, 0, 5);
                Trial.end(x);
                break;
            case DONE_REAL:
                Trial.begin(x, 1, 5, 6);
                Trial.end(x);
                break;
            case DONE_WITHOUT:
                Trial.begin(x, 2, 5);
                Trial.end(x);
                break;
            case TRAPPED:
                Trial.begin(x, 0, 0);
                Trial.end(x);
                break;
            default:
                break;
        }
    }

    private static void refused(State state, String call, Class<?> due, Call made) {
        StackForge x = in(state);
        String what = state + ": " + call;
        Trial.thrown(what, due, () -> made.on(x));
        Trial.thrown(what + ", again", due, () -> made.on(x));
        StackForge other = in(state);
        List<String> seen = all(x);
        List<String> dueThen = all(other);
        for (int i = 0; i < dueThen.size(); i++) {
            if (!seen.get(i).equals(dueThen.get(i))) {
                Trial.same(what + " changed " + seen.get(i) + ", due is " + dueThen.get(i), 1, 0);
            }
        }
    }

    /** All that can be seen of an object, and then of its run, table, arguments and code. */
    private static List<String> all(StackForge x) {
        List<String> seen = new ArrayList<>();
        look(seen, "at once", x);
        for (int i = 0; i < 30 && x.count(0) == StackForge.RUNNING; i++) {
            tell(seen, "run", x, y -> y.run(3));
            look(seen, "run", x);
        }
        tell(seen, "check", x, y -> y.check());
        for (int place = 0; place < 8; place++) {
            seen.add("place " + place + ": " + x.table(place, -1));
        }
        tellShapes(seen, x);
        // How often argue goes, and what comes of the arguments there are.
        for (int i = 0; i < 3; i++) {
            tell(seen, "argue", x, y -> y.argue(1));
        }
        Trial.define(x, 0, 111, 0, 0, 15, 0, 19, 0, 20, 4, 15, 1, 26, 0, 20, 8, 15, 2, 26, 0, 6);
        x.check();
        tell(seen, "start", x, y -> y.start(0));
        tell(seen, "run", x, y -> y.run(20));
        look(seen, "arguments", x);
        seen.add("wipe " + x.wipe());
        look(seen, "wiped", x);
        return seen;
    }

    /** The shape of a function without code, by code that is not BAD with that of function 4 alone. */
    private static void tellShapes(List<String> seen, StackForge x) {
        for (int f = 0; f < 6; f++) {
            if (x.count(6 + f) == 0) {
                Trial.write(x, f, 15, 0, 15, 1, 30, 15, 2, 80, 30, 15, 3, 83, 30, 6);
                seen.add("shape of " + f + ": " + x.fault(f));
            }
            x.shape(f, 0, 0, 0);
        }
    }

    private static void tell(List<String> seen, String what, StackForge x, Call call) {
        String got = "nothing";
        try {
            call.on(x);
        } catch (RuntimeException e) {
            got = e.getClass().getName();
        }
        seen.add(what + " threw " + got);
    }

    private static void look(List<String> seen, String when, StackForge x) {
        for (int what = 0; what <= 11; what++) {
            seen.add(when + ": count " + what + " " + x.count(what));
        }
        for (int at = 0; at < 64; at++) {
            seen.add(when + ": memory " + at + " " + x.memory(at));
        }
        seen.add(when + ": globals " + x.global(0) + " " + x.global(1) + " " + x.realGlobal());
        tell(seen, when + ": result", x, y -> seen.add(when + ": result " + y.result()));
        tell(seen, when + ": real", x, y -> seen.add(when + ": real " + y.real()));
        for (int f = 0; f < 6; f++) {
            seen.add(when + ": fault " + f + " " + x.fault(f));
        }
    }

    private static void outOfRange(State state, String call, Call made) {
        refused(state, call, IllegalArgumentException.class, made);
    }

    private static void numbersOutOfRange(State state) {
        for (int f : new int[] {Integer.MIN_VALUE, -1, 6, Integer.MAX_VALUE}) {
            outOfRange(state, "shape of " + f, x -> x.shape(f, 1, 1, 1));
            outOfRange(state, "code of " + f, x -> x.code(f, 6, 1));
            outOfRange(state, "fault of " + f, x -> x.fault(f));
            outOfRange(state, "start of " + f, x -> x.start(f));
        }
        for (int f : new int[] {Integer.MIN_VALUE, -2, 6, Integer.MAX_VALUE}) {
            outOfRange(state, "table of " + f, x -> x.table(2, f));
        }
        for (int digits : new int[] {-1, 4, 10, 301, 114, 1111}) {
            outOfRange(state, "parameters " + digits, x -> x.shape(0, digits, 1, 1));
            outOfRange(state, "locals " + digits, x -> x.shape(0, 1, 1, digits));
        }
        for (int result : new int[] {-1, 4}) {
            outOfRange(state, "result " + result, x -> x.shape(0, 1, result, 1));
        }
        for (int count : new int[] {-1, 0, 9}) {
            outOfRange(state, "count " + count, x -> x.code(0, 6, count));
            outOfRange(state, "count " + count + " of the full", x -> x.code(3, 6, count));
        }
        for (int place : new int[] {-1, 8}) {
            outOfRange(state, "place " + place, x -> x.table(place, 1));
        }
        for (int n : new int[] {-1, 0, 21}) {
            outOfRange(state, "run of " + n, x -> x.run(n));
        }
        for (int at : NO_INDEX) {
            outOfRange(state, "memory of " + at, x -> x.memory(at));
            outOfRange(state, "count of " + at, x -> x.count(at));
            outOfRange(state, "global of " + at, x -> x.global(at));
        }
        outOfRange(state, "count of 12", x -> x.count(12));
        outOfRange(state, "global of 2", x -> x.global(2));
    }

    private static void always(State state) {
        if (state != State.NEW) {
            refused(state, "a fourth argument", BOUNDS, x -> x.argue(1));
        }
        if (state != State.DONE && state != State.DONE_REAL && state != State.DONE_WITHOUT) {
            refused(state, "result", STATE, x -> x.result());
            refused(state, "real", STATE, x -> x.real());
        }
    }

    private static void whileRunning(State state) {
        refused(state, "shape", STATE, x -> x.shape(0, 2, 2, 2));
        refused(state, "shape of another", STATE, x -> x.shape(5, 2, 2, 2));
        refused(state, "code", STATE, x -> x.code(0, 6, 1));
        refused(state, "code of one without", STATE, x -> x.code(4, 6, 1));
        refused(state, "more than 60", STATE, x -> x.code(3, 6, 2));
        refused(state, "check", STATE, x -> x.check());
        for (int f = 0; f < 6; f++) {
            int function = f;
            refused(state, "start of " + f, STATE, x -> x.start(function));
        }
        refused(state, "wipe", STATE, x -> x.wipe());
    }

    private static void notRunning(State state) {
        refused(state, "run", STATE, x -> x.run(1));
        refused(state, "run of 20", STATE, x -> x.run(20));
        refused(state, "stop", STATE, x -> x.stop());
        if (state != State.NEW) {
            for (int more = 2; more <= 8; more++) {
                int count = more;
                refused(state, "more than 60, " + more, BOUNDS, x -> x.code(3, 6, count));
            }
            refused(state, "start of one without code", STATE, x -> x.start(4));
            refused(state, "start of one at first", STATE, x -> x.start(5));
        }
    }

    private static void results() {
        refused(State.DONE, "real of an int", ELEMENT, x -> x.real());
        refused(State.DONE_REAL, "result of a double", ELEMENT, x -> x.result());
        refused(State.DONE_WITHOUT, "no result", ELEMENT, x -> x.result());
        refused(State.DONE_WITHOUT, "no real", ELEMENT, x -> x.real());
    }

    private static void notChecked() {
        for (State state : new State[] {State.NEW, State.UNCHECKED, State.BAD}) {
            for (int f = 0; f < 6; f++) {
                int function = f;
                refused(state, "start of " + f, STATE, x -> x.start(function));
            }
        }
        refused(State.BAD, "check", UNSUPPORTED, x -> x.check());
        for (State state : new State[] {State.CHECKED, State.STOPPED, State.DONE, State.TRAPPED}) {
            // Three arguments for one and for two.
            refused(state, "start of 0", UNSUPPORTED, x -> x.start(0));
            refused(state, "start of 1", UNSUPPORTED, x -> x.start(1));
        }
    }
}
