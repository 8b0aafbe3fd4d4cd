/** Promise 17: count. */
public final class CountTest {
    public static void main(String[] args) {
        phases();
        steps();
        calls();
        traps();
        lengths();
        wrongNumbers();
        Trial.finish();
    }

    private static void phases() {
        StackForge x = Trial.forge(1, 0, 0, 15, 0, 4, 0, 0, 6, 6);
        Trial.same("idle", x.count(0), 0);
        Trial.same("not checked", x.count(4), 0);
        x.check();
        Trial.same("checked", x.count(4), 1);
        x.argue(0);
        Trial.same("an argument", x.count(5), 1);
        x.start(0);
        Trial.same("running", x.count(0), 1);
        Trial.same("no argument", x.count(5), 0);
        x.run(20);
        Trial.same("done", x.count(0), 2);
        Trial.traps("trapped", 1, x, 1);
        Trial.same("trapped", x.count(0), 3);
        Trial.begin(x, 0, 1);
        x.stop();
        Trial.same("idle again", x.count(0), 0);
    }

    private static void steps() {
        StackForge x = Trial.forge(0, 0, 0, 1, 1, 1, 1, 0, 6);
        x.check();
        Trial.same("before", x.count(1), 0);
        x.start(0);
        x.run(1);
        Trial.same("one", x.count(1), 1);
        x.run(2);
        Trial.same("three", x.count(1), 3);
        Trial.thrown("trap", RuntimeException.class, () -> x.run(20));
        Trial.same("the trap counted", x.count(1), 5);
        x.check();
        x.argue(1);
        Trial.unsupported("a start that throws", () -> x.start(0));
        Trial.same("of the latest run still", x.count(1), 5);
    }

    private static void calls() {
        StackForge x = Trial.forge(0, 0, 0, 11, 1, 6);
        Trial.define(x, 1, 0, 0, 0, 11, 2, 6);
        Trial.define(x, 2, 0, 0, 0, 1, 6);
        x.check();
        Trial.same("idle", x.count(2), 0);
        x.start(0);
        int[] due = {2, 3, 3, 2, 1, 0};
        Trial.same("started", x.count(2), 1);
        for (int i = 0; i < due.length; i++) {
            x.run(1);
            Trial.same("after step " + (i + 1), x.count(2), due[i]);
        }
        Trial.same("done", x.count(0), 2);
        x.start(0);
        x.run(2);
        Trial.same("three", x.count(2), 3);
        x.stop();
        Trial.same("stopped", x.count(2), 0);
    }

    private static void traps() {
        StackForge x = Trial.forge(1, 1, 0, 20, 1, 15, 0, 33, 6);
        Trial.define(x, 1, 0, 0, 0, 0, 6);
        Trial.same("none", x.count(3), 0);
        Trial.traps("division", 2, x, 0);
        Trial.same("no calls", x.count(2), 0);
        Trial.gives("no trap", 1, x, 1);
        Trial.same("the latest stays", x.count(3), 2);
        x.start(1);
        Trial.same("the latest stays at a start", x.count(3), 2);
        Trial.thrown("told", RuntimeException.class, () -> x.run(1));
        Trial.same("the latest", x.count(3), 1);
    }

    private static void lengths() {
        StackForge x = new StackForge();
        for (int f = 0; f < 6; f++) {
            Trial.write(x, f, Trial.repeat(3 * f + 1, 1));
        }
        for (int f = 0; f < 6; f++) {
            Trial.same("length " + f, x.count(6 + f), 3 * f + 1);
        }
    }

    private static void wrongNumbers() {
        StackForge x = new StackForge();
        int[] what = {-1, 12, 13, Integer.MIN_VALUE, Integer.MAX_VALUE};
        for (int w : what) {
            Trial.illegalArgument("count " + w, () -> x.count(w));
        }
    }
}
