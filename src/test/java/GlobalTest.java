/** Promises 13 and 14: global and realGlobal. */
public final class GlobalTest {
    public static void main(String[] args) {
        set();
        keptFromRunToRun();
        wrongNumbers();
        whileRunning();
        Trial.finish();
    }

    private static StackForge setter() {
        return Trial.forge(123, 0, 0, 15, 0, 19, 0, 15, 1, 19, 1, 15, 2, 19, 2, 6);
    }

    private static void set() {
        int[] numbers = {0, 5, -5, Integer.MIN_VALUE, Integer.MAX_VALUE};
        for (int n : numbers) {
            StackForge x = setter();
            Trial.ended(x, n, n, n);
            Trial.same("int " + n, x.global(0), n);
            Trial.same("long " + n, x.global(1), n);
            Trial.sameReal("double " + n, x.realGlobal(), n * 0.125);
        }
        StackForge y = Trial.forge(0, 0, 0, 21, 1, 21, 40, 58, 19, 1, 6);
        Trial.ended(y);
        Trial.same("a long beyond the ints", y.global(1), 1L << 40);
        Trial.same("not the int", y.global(0), 0);
        Trial.sameReal("not the double", y.realGlobal(), 0.0);
    }

    private static void keptFromRunToRun() {
        StackForge x = setter();
        Trial.define(x, 1, 0, 1, 0, 18, 0, 6);
        Trial.define(x, 2, 0, 2, 0, 18, 1, 6);
        Trial.define(x, 3, 0, 3, 0, 18, 2, 6);
        Trial.ended(x, -7, 8, 9);
        x.start(1);
        x.run(20);
        Trial.same("global 0", x.result(), -7);
        x.start(2);
        x.run(20);
        Trial.same("global 1", x.result(), 8);
        x.start(3);
        x.run(20);
        Trial.sameReal("global 2", x.real(), 1.125);
        x.shape(0, 0, 0, 0);
        Trial.same("after a shape", x.global(0), -7);
    }

    private static void wrongNumbers() {
        StackForge x = new StackForge();
        int[] which = {-1, 2, 3, Integer.MIN_VALUE, Integer.MAX_VALUE};
        for (int w : which) {
            Trial.illegalArgument("global " + w, () -> x.global(w));
        }
    }

    private static void whileRunning() {
        StackForge x = setter();
        x.check();
        Trial.begin(x, 0, 3, 4, 5);
        x.run(1);
        Trial.same("not yet", x.global(0), 0);
        x.run(1);
        Trial.same("set", x.global(0), 3);
        Trial.same("not yet", x.global(1), 0);
        x.run(2);
        Trial.same("set", x.global(1), 4);
        Trial.sameReal("not yet", x.realGlobal(), 0.0);
        x.run(2);
        Trial.sameReal("set", x.realGlobal(), 0.625);
        Trial.illegalArgument("global 2", () -> x.global(2));
        x.stop();
        Trial.same("after a stop", x.global(0), 3);
    }
}
