/** Promise 9: run, as a call; what the steps do is in FlowTest, NumbersTest and the others. */
public final class RunTest {
    public static void main(String[] args) {
        answersHowManySteps();
        wrongNumbers();
        notRunning();
        traps();
        trapInTheMiddle();
        Trial.finish();
    }

    private static void answersHowManySteps() {
        StackForge x = Trial.forge(0, 0, 0, Trial.join(Trial.repeat(49, 1), Trial.row(6)));
        x.check();
        x.start(0);
        int done = 0;
        int[] ns = {1, 2, 3, 20, 19};
        for (int n : ns) {
            Trial.same("up to " + n, x.run(n), n);
            done += n;
            Trial.same("steps", x.count(1), done);
            Trial.same("running", x.count(0), 1);
        }
        Trial.same("the last five of up to 20", x.run(20), 5);
        Trial.same("done", x.count(0), 2);
        Trial.same("steps", x.count(1), 50);
        x.start(0);
        x.run(20);
        x.run(20);
        Trial.same("the last ten of ten", x.run(10), 10);
        Trial.same("done", x.count(0), 2);
    }

    private static void wrongNumbers() {
        StackForge x = Trial.forge(0, 0, 0, 3, 0, 7, 0, 6, 6);
        int[] ns = {0, -1, 21, 100, Integer.MIN_VALUE, Integer.MAX_VALUE};
        for (int n : ns) {
            Trial.illegalArgument("idle " + n, () -> x.run(n));
        }
        x.check();
        x.start(0);
        for (int n : ns) {
            Trial.illegalArgument("running " + n, () -> x.run(n));
        }
        Trial.same("no steps", x.count(1), 0);
        for (int n = 1; n <= 20; n++) {
            Trial.same("up to " + n, x.run(n), n);
        }
    }

    private static void notRunning() {
        StackForge x = Trial.forge(1, 1, 0, 20, 1, 15, 0, 33, 6);
        Trial.illegalState("idle", () -> x.run(1));
        Trial.gives("done", 1, x, 1);
        Trial.illegalState("done", () -> x.run(1));
        Trial.same("steps", x.count(1), 4);
        Trial.traps("trapped", 2, x, 0);
        Trial.illegalState("trapped", () -> x.run(20));
        Trial.same("steps", x.count(1), 3);
        Trial.begin(x, 0, 1);
        x.stop();
        Trial.illegalState("stopped", () -> x.run(20));
    }

    private static void traps() {
        Trial.traps("1", 1, Trial.forge(0, 0, 0, 0, 6));
        Trial.traps("2", 2, Trial.forge(0, 1, 0, 20, 1, 20, 0, 33, 6));
        Trial.traps("3", 3, Trial.forge(0, 1, 0, 20, 64, 24, 0, 6));
        Trial.traps("4", 4, Trial.forge(0, 0, 0, 20, 0, 12, 0, 6));
        Trial.traps("5", 5, Trial.forge(2, 1, 0, 15, 0, 21, 33, 58, 84, 83, 6), 1);
    }

    private static void trapInTheMiddle() {
        StackForge x = Trial.forge(0, 0, 0, 1, 20, 3, 19, 0, 20, 9, 20, 4, 27, 0, 1, 0, 1, 6);
        x.check();
        x.start(0);
        Trial.thrown("trap", RuntimeException.class, () -> x.run(20));
        Trial.same("steps", x.count(1), 8);
        Trial.same("trapped", x.count(0), 3);
        Trial.same("trap", x.count(3), 1);
        Trial.same("no calls", x.count(2), 0);
        Trial.same("what was done before: a global", x.global(0), 3);
        Trial.same("what was done before: a byte", x.memory(9), 4);
        x.start(0);
        x.run(7);
        Trial.same("running before the trap", x.count(0), 1);
        Trial.same("no new trap", x.count(1), 7);
        Trial.thrown("trap", RuntimeException.class, () -> x.run(1));
        Trial.same("steps", x.count(1), 8);
    }
}
