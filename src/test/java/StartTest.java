/** Promise 8: start. */
public final class StartTest {
    public static void main(String[] args) {
        answersHowManyThereWere();
        illegalStates();
        otherNumberOfArguments();
        wrongNumbers();
        startsAnew();
        Trial.finish();
    }

    private static void answersHowManyThereWere() {
        StackForge x = new StackForge();
        int[] rows = {0, 2, 13, 321};
        for (int n = 0; n <= 3; n++) {
            Trial.define(x, n, rows[n], 0, 0, 1, 6);
        }
        x.check();
        for (int n = 0; n <= 3; n++) {
            for (int i = 0; i < n; i++) {
                x.argue(i);
            }
            Trial.same("with " + n, x.start(n), n);
            Trial.same("running", x.count(0), 1);
            Trial.same("no arguments any more", x.count(5), 0);
            Trial.same("no steps", x.count(1), 0);
            Trial.same("one call", x.count(2), 1);
            x.run(20);
            Trial.same("two steps", x.count(1), 2);
        }
    }

    private static void illegalStates() {
        StackForge x = Trial.forge(1, 0, 0, 1, 6);
        x.argue(1);
        Trial.illegalState("not checked", () -> x.start(0));
        x.check();
        Trial.illegalState("no code", () -> x.start(1));
        Trial.same("the argument is there", x.count(5), 1);
        x.start(0);
        Trial.illegalState("running", () -> x.start(0));
        x.argue(1);
        Trial.illegalState("running, with an argument", () -> x.start(0));
        Trial.same("that is there", x.count(5), 1);
        x.run(1);
        Trial.same("one step", x.count(1), 1);
        Trial.illegalState("running still", () -> x.start(0));
        Trial.same("one step still", x.count(1), 1);
        x.run(1);
        x.code(2, 6L, 1);
        Trial.illegalState("not checked any more", () -> x.start(0));
        x.check();
        Trial.same("checked again", x.start(0), 1);
        x.run(20);
        // State before number of arguments: function 3 has no code, and there are no arguments.
        x.shape(3, 1, 0, 0);
        Trial.illegalState("not checked, and too few", () -> x.start(0));
        x.check();
        Trial.illegalState("no code, and too few", () -> x.start(3));
        Trial.unsupported("too few alone", () -> x.start(0));
    }

    private static void otherNumberOfArguments() {
        int[] rows = {0, 1, 11, 111};
        for (int parameters = 0; parameters <= 3; parameters++) {
            for (int arguments = 0; arguments <= 3; arguments++) {
                StackForge x = Trial.forge(rows[parameters], 0, 123, 6);
                x.check();
                for (int i = 0; i < arguments; i++) {
                    x.argue(i);
                }
                if (parameters == arguments) {
                    Trial.same("as many", x.start(0), arguments);
                } else {
                    Trial.unsupported(arguments + " of " + parameters, () -> x.start(0));
                    Trial.same("all there", x.count(5), arguments);
                    Trial.same("idle", x.count(0), 0);
                }
            }
        }
    }

    private static void wrongNumbers() {
        StackForge x = Trial.forge(0, 0, 0, 1, 6);
        int[] functions = {-1, 6, Integer.MIN_VALUE, Integer.MAX_VALUE};
        for (int f : functions) {
            Trial.illegalArgument("not checked " + f, () -> x.start(f));
        }
        x.check();
        x.start(0);
        for (int f : functions) {
            Trial.illegalArgument("running " + f, () -> x.start(f));
        }
    }

    private static void startsAnew() {
        // Locals are 0 in every run; a run after a trap or a stop is as one on a new object.
        StackForge x = Trial.forge(1, 1, 1, 15, 1, 15, 0, 30, 17, 1, 6);
        Trial.gives("first", 4, x, 4);
        Trial.gives("second", 5, x, 5);
        x.argue(9);
        x.start(0);
        x.run(3);
        x.stop();
        Trial.gives("after a stop", 6, x, 6);
        StackForge y = Trial.forge(1, 1, 0, 20, 12, 15, 0, 33, 6);
        Trial.traps("12 / 0", 2, y, 0);
        Trial.gives("after a trap", 4, y, 3);
        Trial.same("steps of the latest", y.count(1), 4);
        // LOCALS are 0 where an earlier run had more arguments.
        StackForge w = Trial.forge(1, 1, 11, 15, 1, 15, 2, 30, 6);
        Trial.define(w, 1, 111, 0, 0, 6);
        w.check();
        Trial.begin(w, 1, 70, 80, 90);
        Trial.end(w);
        Trial.gives("fewer arguments", 0, w, 5);
        // Not the function of the run before, nor its depth.
        StackForge z = Trial.forge(0, 0, 0, 11, 0, 6);
        Trial.define(z, 1, 0, 1, 0, 20, 77, 6);
        Trial.traps("too deep", 1, z);
        z.start(1);
        Trial.same("one call", z.count(2), 1);
        z.run(20);
        Trial.same("77", z.result(), 77);
    }
}
