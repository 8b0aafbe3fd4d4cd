/** Promise 11: result. */
public final class ResultTest {
    public static void main(String[] args) {
        ofItsKinds();
        notDone();
        none();
        staysAsItWas();
        Trial.finish();
    }

    private static void ofItsKinds() {
        int[] numbers = {0, 1, -1, 77, Integer.MIN_VALUE, Integer.MAX_VALUE};
        for (int n : numbers) {
            Trial.gives("int " + n, n, Trial.forge(1, 1, 0, 15, 0, 6), n);
            Trial.gives("long " + n, n, Trial.forge(2, 2, 0, 15, 0, 6), n);
            Trial.gives("long " + n + " * 2^31 * 4", n * (1L << 33),
                    Trial.forge(2, 2, 0, 15, 0, 21, 33, 58, 6), n);
        }
        Trial.gives("lowest long", Long.MIN_VALUE, Trial.forge(0, 2, 0, 21, 1, 21, 63, 58, 6));
    }

    private static void notDone() {
        StackForge x = Trial.forge(1, 1, 0, 20, 1, 15, 0, 33, 6);
        Trial.illegalState("idle", () -> x.result());
        x.check();
        x.argue(1);
        x.start(0);
        Trial.illegalState("running", () -> x.result());
        x.run(3);
        Trial.illegalState("running still", () -> x.result());
        x.run(1);
        Trial.same("done", x.result(), 1);
        Trial.same("done, again", x.result(), 1);
        Trial.traps("trapped", 2, x, 0);
        Trial.illegalState("trapped", () -> x.result());
    }

    private static void none() {
        StackForge x = Trial.forge(0, 0, 0, 6);
        Trial.ended(x);
        Trial.same("done", x.count(0), 2);
        Trial.noSuchElement("no result", () -> x.result());
        StackForge y = Trial.forge(0, 3, 0, 22, 8, 6);
        Trial.ended(y);
        Trial.noSuchElement("a double", () -> y.result());
        Trial.same("done still", y.count(0), 2);
        y.shape(1, 0, 1, 0);
        Trial.noSuchElement("a double still", () -> y.result());
    }

    private static void staysAsItWas() {
        StackForge x = Trial.forge(0, 1, 0, 20, 42, 6);
        Trial.gives("42", 42, x);
        x.argue(1);
        x.wipe();
        x.shape(1, 0, 0, 0);
        x.code(1, 6L, 1);
        x.check();
        Trial.same("42 still", x.result(), 42);
    }
}
