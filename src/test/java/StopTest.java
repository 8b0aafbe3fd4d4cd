/** Promise 10: stop. */
public final class StopTest {
    public static void main(String[] args) {
        StackForge x = Trial.forge(0, 0, 0, 3, 0, 1, 7, 0, 6, 6);
        Trial.illegalState("idle", () -> x.stop());
        x.check();
        x.start(0);
        Trial.same("no steps", x.stop(), 0);
        Trial.same("idle", x.count(0), 0);
        Trial.illegalState("twice", () -> x.stop());
        x.start(0);
        x.run(20);
        x.run(7);
        Trial.same("27 steps", x.stop(), 27);
        Trial.same("idle", x.count(0), 0);
        Trial.same("steps stay", x.count(1), 27);
        Trial.same("no calls", x.count(2), 0);
        Trial.same("checked still", x.count(4), 1);
        Trial.illegalState("run", () -> x.run(1));
        Trial.illegalState("result", () -> x.result());
        Trial.illegalState("real", () -> x.real());
        Trial.same("start again", x.start(0), 0);
        Trial.same("steps from 0", x.count(1), 0);
        x.stop();
        afterTheEnd();
        Trial.finish();
    }

    private static void afterTheEnd() {
        StackForge x = Trial.forge(1, 1, 0, 20, 1, 15, 0, 33, 6);
        Trial.gives("done", 1, x, 1);
        Trial.illegalState("done", () -> x.stop());
        Trial.same("done still", x.count(0), 2);
        Trial.same("its result", x.result(), 1);
        Trial.traps("trapped", 2, x, 0);
        Trial.illegalState("trapped", () -> x.stop());
        Trial.same("trapped still", x.count(0), 3);
        // A result of an earlier run is gone with a stopped one.
        Trial.gives("done again", 1, x, 1);
        x.argue(1);
        x.start(0);
        x.run(1);
        Trial.same("one step", x.stop(), 1);
        Trial.illegalState("no result", () -> x.result());
        x.shape(0, 0, 0, 0);
        Trial.same("a shape can be given", x.count(6), 0);
    }
}
