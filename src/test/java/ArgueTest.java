/** Promise 7: argue. */
public final class ArgueTest {
    public static void main(String[] args) {
        atMostThree();
        becomesItsKind();
        inTheirOrder();
        atAnyTime();
        Trial.finish();
    }

    private static void atMostThree() {
        StackForge x = new StackForge();
        Trial.same("one", x.argue(0), 1);
        Trial.same("two", x.argue(Integer.MIN_VALUE), 2);
        Trial.same("three", x.argue(Integer.MAX_VALUE), 3);
        Trial.outOfBounds("four", () -> x.argue(1));
        Trial.outOfBounds("four again", () -> x.argue(1));
        Trial.same("three still", x.count(5), 3);
    }

    private static void becomesItsKind() {
        int[] arguments = {0, 1, -1, 7, -9, 1000, Integer.MIN_VALUE, Integer.MAX_VALUE};
        for (int a : arguments) {
            Trial.gives("int " + a, a, Trial.forge(1, 1, 0, 15, 0, 6), a);
            Trial.gives("long " + a, a, Trial.forge(2, 2, 0, 15, 0, 6), a);
            Trial.givesReal("double " + a, a * 0.125, Trial.forge(3, 3, 0, 15, 0, 6), a);
        }
    }

    private static void inTheirOrder() {
        for (int v = 0; v < 3; v++) {
            Trial.gives("variable " + v, 10 + v, Trial.forge(111, 1, 0, 15, v, 6), 10, 11, 12);
        }
        Trial.gives("of 213, the int", -3, Trial.forge(213, 1, 0, 15, 1, 6), 5, -3, 9);
        Trial.gives("of 213, the long", 5, Trial.forge(213, 2, 0, 15, 0, 6), 5, -3, 9);
        Trial.givesReal("of 213, the double", 1.125, Trial.forge(213, 3, 0, 15, 2, 6), 5, -3, 9);
        // The fourth did not change the third.
        StackForge x = Trial.forge(111, 1, 0, 15, 2, 6);
        x.argue(1);
        x.argue(2);
        x.argue(3);
        Trial.outOfBounds("four", () -> x.argue(4));
        Trial.gives("the third", 3, x);
    }

    private static void atAnyTime() {
        StackForge x = Trial.forge(1, 1, 0, 15, 0, 6);
        x.argue(5);
        x.shape(3, 0, 0, 0);
        x.check();
        Trial.same("kept", x.count(5), 1);
        x.start(0);
        Trial.same("while running", x.argue(6), 1);
        x.run(20);
        Trial.same("not the later one", x.result(), 5);
        x.start(0);
        x.run(20);
        Trial.same("the later one", x.result(), 6);
    }
}
