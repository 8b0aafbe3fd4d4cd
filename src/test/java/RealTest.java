/** Promise 12: real. */
public final class RealTest {
    public static void main(String[] args) {
        int[] numbers = {0, 1, -1, 8, 100, -127, Integer.MAX_VALUE, Integer.MIN_VALUE};
        for (int n : numbers) {
            Trial.givesReal("double " + n, n / 8.0, Trial.forge(3, 3, 0, 15, 0, 6), n);
        }
        notDone();
        none();
        Trial.finish();
    }

    private static void notDone() {
        StackForge x = Trial.forge(3, 3, 0, 22, 8, 15, 0, 73, 6);
        Trial.illegalState("idle", () -> x.real());
        x.check();
        x.argue(16);
        x.start(0);
        Trial.illegalState("running", () -> x.real());
        x.run(3);
        Trial.illegalState("running still", () -> x.real());
        x.run(1);
        Trial.sameReal("done", x.real(), 0.5);
        Trial.sameReal("done, again", x.real(), 0.5);
        Trial.traps("trapped", 2, x, 0);
        Trial.illegalState("trapped", () -> x.real());
    }

    private static void none() {
        StackForge x = Trial.forge(0, 0, 0, 6);
        Trial.ended(x);
        Trial.noSuchElement("no result", () -> x.real());
        StackForge y = Trial.forge(0, 1, 0, 20, 8, 6);
        Trial.ended(y);
        Trial.noSuchElement("an int", () -> y.real());
        StackForge z = Trial.forge(0, 2, 0, 21, 8, 6);
        Trial.ended(z);
        Trial.noSuchElement("a long", () -> z.real());
        Trial.same("done still", z.count(0), 2);
    }
}
