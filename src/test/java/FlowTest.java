/** Promise 9: frames, jumps, calls and variables, step by step. */
public final class FlowTest {
    public static void main(String[] args) {
        blocks();
        ifs();
        everyIntButNone();
        elses();
        loops();
        jumps();
        jumpsIf();
        jumpsToOneOf();
        leaving();
        stackValues();
        variables();
        globals();
        calls();
        callsByPlace();
        deepCalls();
        Trial.finish();
    }

    private static void gives(long due, int steps, StackForge x, int... arguments) {
        String what = "row of " + x.count(6) + " bytes due " + due;
        Trial.gives(what, due, x, arguments);
        Trial.same(what + ": steps", x.count(1), steps);
    }

    private static void blocks() {
        gives(5, 4, Trial.forge(0, 1, 0, 2, 1, 20, 5, 6, 6));
        gives(8, 6, Trial.forge(0, 1, 0, 20, 3, 2, 1, 20, 5, 6, 30, 6));
        gives(7, 9, Trial.forge(0, 2, 0, 2, 2, 2, 0, 1, 6, 2, 2, 21, 7, 6, 6, 6));
        gives(4, 4, Trial.forge(0, 1, 0, 3, 1, 20, 4, 6, 6));
    }

    private static void ifs() {
        int[] code = {15, 0, 4, 0, 20, 9, 16, 1, 6, 15, 1, 6};
        gives(9, 7, Trial.forge(1, 1, 1, code), 1);
        gives(9, 7, Trial.forge(1, 1, 1, code), -1);
        gives(9, 7, Trial.forge(1, 1, 1, code), Integer.MIN_VALUE);
        gives(0, 4, Trial.forge(1, 1, 1, code), 0);
        // Without an ELSE, and with frames and an ELSE of another within.
        int[] nested = {15, 0, 4, 0, 15, 0, 4, 0, 20, 1, 19, 0, 5, 20, 2, 19, 0, 6, 2, 0, 6, 6, 18, 0,
            6};
        gives(1, 12, Trial.forge(1, 1, 0, nested), 5);
        gives(0, 4, Trial.forge(1, 1, 0, nested), 0);
    }

    /** What is not 0 is so for 4, 8 and 14, whichever of its bits are set. */
    private static void everyIntButNone() {
        StackForge x = new StackForge();
        Trial.define(x, 0, 1, 1, 0, 15, 0, 4, 1, 20, 7, 5, 20, 8, 6, 6);
        Trial.define(x, 1, 1, 1, 0, 20, 7, 15, 0, 8, 0, 13, 20, 8, 6);
        Trial.define(x, 2, 1, 1, 0, 20, 7, 20, 8, 15, 0, 14, 6);
        x.check();
        for (int bit = -1; bit < 32; bit++) {
            int number = bit < 0 ? 0 : 1 << bit;
            for (int f = 0; f < 3; f++) {
                Trial.begin(x, f, number);
                Trial.end(x);
                Trial.same("function " + f + " of " + number, x.result(), number == 0 ? 8 : 7);
            }
        }
    }

    private static void elses() {
        // An IF at a place where code that is no more had one with an ELSE.
        StackForge x = Trial.forge(1, 1, 0, 15, 0, 4, 0, 5, 6, 20, 5, 6);
        gives(5, 5, x, 0);
        Trial.define(x, 0, 1, 1, 0, 15, 0, 4, 0, 0, 6, 20, 9, 6);
        gives(9, 4, x, 0);
        int[] code = {15, 0, 4, 1, 20, 8, 5, 20, 9, 6, 6};
        // ELSE goes behind the END: END is no step of its own then.
        gives(8, 5, Trial.forge(1, 1, 0, code), 3);
        gives(9, 5, Trial.forge(1, 1, 0, code), 0);
        int[] nested = {15, 0, 4, 1, 15, 1, 4, 1, 20, 1, 5, 20, 2, 6, 5, 15, 1, 4, 1, 20, 3, 5, 20, 4,
            6, 6, 6};
        gives(1, 8, Trial.forge(11, 1, 0, nested), 1, 1);
        gives(2, 8, Trial.forge(11, 1, 0, nested), 1, 0);
        gives(3, 8, Trial.forge(11, 1, 0, nested), 0, 1);
        gives(4, 8, Trial.forge(11, 1, 0, nested), 0, 0);
        // The frame of an ELSE is that of its IF: a jump to it goes behind the END.
        int[] jumping = {15, 0, 4, 1, 20, 1, 5, 20, 7, 7, 0, 6, 20, 10, 30, 6};
        gives(17, 7, Trial.forge(1, 1, 0, jumping), 0);
        gives(11, 7, Trial.forge(1, 1, 0, jumping), 1);
        // A part that is empty.
        gives(6, 5, Trial.forge(1, 1, 0, 15, 0, 4, 0, 5, 6, 20, 6, 6), 1);
        gives(6, 5, Trial.forge(1, 1, 0, 15, 0, 4, 0, 5, 6, 20, 6, 6), 0);
    }

    private static void loops() {
        // Sum of n .. 1.
        int[] sum = {3, 0, 15, 1, 15, 0, 30, 16, 1, 15, 0, 20, 1, 31, 17, 0, 8, 0, 6, 15, 1, 6};
        gives(1, 1 + 9 + 3, Trial.forge(1, 1, 1, sum), 1);
        gives(55, 1 + 90 + 3, Trial.forge(1, 1, 1, sum), 10);
        // A jump to a loop leaves nothing of what it put.
        int[] dirty = {20, 40, 3, 1, 20, 1, 20, 2, 20, 3, 15, 0, 20, 1, 31, 17, 0, 8, 0, 13, 13, 6, 30,
            6};
        gives(41, 2 + 4 * 8 + 5, Trial.forge(1, 1, 0, dirty), 4);
        int[] dirtyFromTheBottom = {3, 1, 20, 1, 20, 2, 20, 3, 15, 0, 20, 1, 31, 17, 0, 8, 0, 13, 13,
            20, 50, 30, 6, 6};
        gives(51, 1 + 12 * 8 + 6, Trial.forge(1, 1, 0, dirtyFromTheBottom), 12);
        // A loop that ends by its END goes on behind it, with its result.
        gives(12, 5, Trial.forge(0, 1, 0, 3, 1, 20, 12, 6, 1, 6));
        // Inner loop in an outer one: a * b by ones.
        int[] twice = {3, 0, 15, 1, 16, 2, 3, 0, 15, 3, 20, 1, 30, 16, 3, 15, 2, 20, 1, 31, 17, 2, 8, 0,
            6, 15, 0, 20, 1, 31, 17, 0, 8, 0, 6, 15, 3, 6};
        Trial.gives("3 times 5 times", 15, Trial.forge(11, 1, 11, twice), 3, 5);
        // From the inner loop on with the outer one.
        int[] outer = {3, 0, 3, 0, 15, 0, 20, 1, 31, 17, 0, 8, 1, 6, 6, 15, 0, 6};
        gives(0, 1 + 3 * 6 + 4, Trial.forge(1, 1, 0, outer), 3);
        // An IF in a loop, a jump from it on with the loop.
        int[] three = {15, 0, 16, 2, 3, 0, 15, 1, 4, 0, 15, 2, 15, 0, 32, 16, 2, 15, 1, 20, 1, 31, 16,
            1, 7, 1, 6, 6, 15, 2, 6};
        gives(243, 52, Trial.forge(11, 1, 1, three), 3, 4);
    }

    private static void jumps() {
        gives(7, 5, Trial.forge(0, 1, 0, 2, 0, 7, 0, 20, 3, 13, 6, 20, 7, 1, 6));
        gives(7, 4, Trial.forge(0, 1, 0, 2, 1, 20, 7, 7, 0, 6, 6));
        // What is kept is the last; what was put below it in the frame goes.
        gives(107, 8, Trial.forge(0, 1, 0, 20, 100, 2, 1, 20, 1, 20, 2, 20, 7, 7, 0, 6, 30, 6));
        gives(107, 9, Trial.forge(0, 1, 0, 20, 100, 2, 1, 20, 1, 2, 0, 20, 2, 20, 7, 7, 1, 6, 13, 20,
                5, 6, 30, 6));
        gives(3, 6, Trial.forge(0, 1, 0, 2, 0, 2, 0, 2, 0, 7, 2, 6, 20, 1, 13, 6, 6, 20, 3, 6));
        gives(5, 4, Trial.forge(0, 1, 0, 2, 0, 20, 9, 20, 5, 7, 1, 6, 20, 4, 6));
        gives(5, 2, Trial.forge(0, 1, 0, 20, 5, 7, 0, 6));
        // A frame without a result: nothing is kept of what was put in it.
        gives(-2, 7, Trial.forge(0, 1, 0, 20, 5, 20, 7, 2, 0, 20, 8, 7, 0, 6, 31, 6));
        gives(-2, 9, Trial.forge(1, 1, 0, 20, 5, 20, 7, 15, 0, 4, 0, 20, 8, 15, 0, 8, 0, 13, 6, 31, 6),
                1);
        // Every kind is kept.
        gives(-6, 4, Trial.forge(0, 2, 0, 2, 2, 21, 250, 7, 0, 6, 6));
        Trial.givesReal("a double", 1.5, Trial.forge(0, 3, 0, 2, 3, 22, 3, 22, 12, 7, 0, 6, 6));
        // An if that is left by a jump, with and without an ELSE.
        gives(2, 6, Trial.forge(1, 1, 0, 15, 0, 4, 0, 7, 0, 20, 1, 13, 6, 20, 2, 1, 6), 1);
        gives(2, 6, Trial.forge(1, 1, 0, 15, 0, 4, 0, 7, 0, 5, 0, 6, 20, 2, 1, 6), 1);
    }

    private static void jumpsIf() {
        int[] code = {2, 1, 20, 50, 15, 0, 8, 0, 13, 20, 60, 6, 6};
        gives(50, 5, Trial.forge(1, 1, 0, code), 1);
        gives(50, 5, Trial.forge(1, 1, 0, code), -8);
        gives(60, 8, Trial.forge(1, 1, 0, code), 0);
        int[] out = {20, 1, 2, 0, 20, 9, 15, 0, 8, 1, 13, 6, 6};
        gives(9, 5, Trial.forge(1, 1, 0, out), 1);
        gives(1, 8, Trial.forge(1, 1, 0, out), 0);
        gives(4, 5, Trial.forge(1, 1, 0, 2, 0, 15, 0, 8, 0, 6, 20, 4, 6), 1);
        gives(4, 6, Trial.forge(1, 1, 0, 2, 0, 15, 0, 8, 0, 6, 20, 4, 6), 0);
    }

    private static void jumpsToOneOf() {
        // Three blocks; behind each another number is put.
        int[] code = {2, 0, 2, 0, 2, 0, 15, 0, 9, 2, 0, 1, 2, 6, 20, 10, 10, 6, 20, 11, 10, 6, 20, 12,
            6};
        int[] arguments = {0, 1, 2, 3, 100, -1, Integer.MIN_VALUE, Integer.MAX_VALUE};
        long[] due = {10, 11, 12, 12, 12, 12, 12, 12};
        for (int i = 0; i < arguments.length; i++) {
            gives(due[i], 7, Trial.forge(1, 1, 0, code), arguments[i]);
        }
        int[] four = {2, 0, 2, 0, 2, 0, 2, 0, 15, 0, 9, 3, 3, 2, 1, 0, 6, 20, 10, 10, 6, 20, 11, 10, 6,
            20, 12, 10, 6, 20, 13, 6};
        long[] dueFour = {13, 12, 11, 10, 10, 10, 10, 10};
        for (int i = 0; i < arguments.length; i++) {
            gives(dueFour[i], 8, Trial.forge(1, 1, 0, four), arguments[i]);
        }
        // n 0: always the one there is.
        int[] none = {2, 0, 15, 0, 9, 0, 0, 6, 20, 6, 6};
        gives(6, 5, Trial.forge(1, 1, 0, none), 0);
        gives(6, 5, Trial.forge(1, 1, 0, none), 7);
        gives(6, 5, Trial.forge(1, 1, 0, none), -7);
        // With a result, to the outermost and to a block.
        int[] result = {2, 1, 20, 5, 15, 0, 9, 1, 0, 1, 6, 20, 1, 30, 6};
        gives(6, 7, Trial.forge(1, 1, 0, result), 0);
        gives(5, 4, Trial.forge(1, 1, 0, result), 1);
        gives(5, 4, Trial.forge(1, 1, 0, result), -1);
        // To a loop: it goes on with its first instruction.
        int[] loop = {2, 0, 3, 0, 15, 1, 20, 1, 30, 16, 1, 15, 0, 15, 1, 43, 9, 1, 0, 1, 6, 6, 15, 1,
            6};
        gives(5, 2 + 5 * 8 + 2, Trial.forge(11, 1, 0, loop), 4, 0);
    }

    private static void leaving() {
        gives(9, 2, Trial.forge(0, 1, 0, 20, 9, 10, 6));
        gives(9, 5, Trial.forge(0, 1, 0, 20, 1, 2, 0, 3, 0, 20, 9, 10, 6, 6, 6));
        StackForge x = Trial.forge(0, 0, 0, 20, 1, 20, 2, 10, 6);
        Trial.ended(x);
        Trial.same("without a result", x.count(0), 2);
        Trial.same("steps", x.count(1), 3);
    }

    private static void stackValues() {
        gives(1, 4, Trial.forge(0, 1, 0, 20, 1, 22, 2, 13, 6));
        gives(11, 5, Trial.forge(1, 1, 0, 20, 11, 20, 22, 15, 0, 14, 6), 1);
        gives(11, 5, Trial.forge(1, 1, 0, 20, 11, 20, 22, 15, 0, 14, 6), -1);
        gives(22, 5, Trial.forge(1, 1, 0, 20, 11, 20, 22, 15, 0, 14, 6), 0);
        gives(-11, 5, Trial.forge(1, 2, 0, 21, 245, 21, 22, 15, 0, 14, 6), 1);
        gives(22, 5, Trial.forge(1, 2, 0, 21, 245, 21, 22, 15, 0, 14, 6), 0);
        int[] reals = {22, 11, 22, 22, 15, 0, 14, 6};
        Trial.givesReal("14 of doubles, x", 1.375, Trial.forge(1, 3, 0, reals), 1);
        Trial.givesReal("14 of doubles, y", 2.75, Trial.forge(1, 3, 0, reals), 0);
        // Nothing of the three is left.
        gives(107, 7, Trial.forge(0, 1, 0, 20, 100, 20, 7, 20, 8, 20, 1, 14, 30, 6));
        for (int b = 0; b < 256; b++) {
            int signed = b < 128 ? b : b - 256;
            gives(signed, 2, Trial.forge(0, 1, 0, 20, b, 6));
            gives(signed, 2, Trial.forge(0, 2, 0, 21, b, 6));
            Trial.givesReal("22 " + b, signed / 8.0, Trial.forge(0, 3, 0, 22, b, 6));
        }
        // Sixteen on the stack.
        gives(136, 32, Trial.forge(0, 1, 0, Trial.join(
                Trial.row(20, 1, 20, 2, 20, 3, 20, 4, 20, 5, 20, 6, 20, 7, 20, 8),
                Trial.row(20, 9, 20, 10, 20, 11, 20, 12, 20, 13, 20, 14, 20, 15, 20, 16),
                Trial.repeat(15, 30), Trial.row(6))));
    }

    private static void variables() {
        // Locals are 0 and of their kinds.
        gives(0, 2, Trial.forge(1, 1, 123, 15, 1, 6), 5);
        gives(0, 2, Trial.forge(1, 2, 123, 15, 2, 6), 5);
        Trial.givesReal("a local", 0.0, Trial.forge(1, 3, 123, 15, 3, 6), 5);
        gives(7, 4, Trial.forge(1, 1, 123, 20, 7, 16, 1, 15, 1, 6), 5);
        gives(8, 4, Trial.forge(1, 1, 123, 20, 8, 20, 7, 16, 1, 6), 5);
        gives(5, 4, Trial.forge(1, 1, 123, 20, 7, 16, 1, 15, 0, 6), 5);
        gives(14, 5, Trial.forge(1, 1, 0, 20, 7, 17, 0, 15, 0, 30, 6), 5);
        gives(-3, 4, Trial.forge(1, 2, 2, 21, 253, 16, 1, 15, 1, 6), 5);
        Trial.givesReal("16", 2.5, Trial.forge(3, 3, 3, 22, 20, 16, 1, 15, 1, 6), 5);
        Trial.givesReal("17", 2.5, Trial.forge(3, 3, 3, 22, 20, 17, 1, 6), 5);
        Trial.givesReal("not another", 0.625, Trial.forge(3, 3, 3, 22, 20, 16, 1, 15, 0, 6), 5);
        // All six apart.
        int[] set = {20, 1, 16, 0, 20, 2, 16, 1, 20, 4, 16, 2, 20, 8, 16, 3, 20, 16, 16, 4, 20, 32, 16,
            5};
        for (int v = 0; v < 6; v++) {
            gives(1L << v, 14, Trial.forge(111, 1, 111, Trial.join(set, Trial.row(15, v, 6))), 0, 0, 0);
        }
    }

    private static void globals() {
        gives(5, 6, Trial.forge(0, 1, 0, 20, 5, 19, 0, 21, 6, 19, 1, 18, 0, 6));
        gives(7, 4, Trial.forge(0, 1, 0, 20, 7, 20, 5, 19, 0, 6));
        gives(6, 6, Trial.forge(0, 2, 0, 20, 5, 19, 0, 21, 6, 19, 1, 18, 1, 6));
        Trial.givesReal("18 2", 0.75, Trial.forge(0, 3, 0, 22, 6, 19, 2, 18, 2, 6));
    }

    private static void calls() {
        // PARAMETERS in their order, of every kind; LOCALS are 0 in each call.
        StackForge x = Trial.forge(0, 1, 0, 20, 9, 21, 5, 22, 16, 11, 1, 6);
        Trial.define(x, 1, 123, 1, 1, 15, 0, 20, 100, 32, 15, 1, 80, 20, 10, 32, 30, 15, 2, 83, 30, 15,
                3, 30, 20, 77, 16, 3, 6);
        gives(952, 5 + 16, x);
        gives(952, 5 + 16, x);
        StackForge twice = Trial.forge(1, 1, 0, 15, 0, 11, 1, 15, 0, 11, 1, 30, 6);
        Trial.define(twice, 1, 1, 1, 1, 15, 0, 15, 1, 30, 17, 1, 16, 0, 15, 1, 6);
        gives(8, 6 + 14, twice, 4);
        // LOCALS are 0 whatever the caller had on its STACK before.
        StackForge u = Trial.forge(0, 1, 0, 20, 55, 20, 66, 20, 77, 13, 13, 11, 1, 6);
        Trial.define(u, 1, 1, 1, 11, 15, 1, 15, 2, 30, 6);
        gives(0, 7 + 4, u);
        // What the caller has below stays, and its VARIABLES too.
        StackForge y = Trial.forge(1, 1, 0, 20, 100, 15, 0, 11, 1, 31, 15, 0, 30, 6);
        Trial.define(y, 1, 1, 1, 0, 20, 1, 16, 0, 20, 60, 20, 50, 10, 6);
        gives(55, 7 + 5, y, 5);
        // A call without a result puts nothing; one that ends by a jump from within returns too.
        StackForge z = Trial.forge(0, 1, 0, 20, 3, 11, 1, 6);
        Trial.define(z, 1, 0, 0, 0, 2, 0, 3, 0, 20, 8, 7, 2, 6, 6, 6);
        gives(3, 7, z);
        // A call from within frames, and jumps after it go on with them.
        StackForge w = Trial.forge(1, 1, 1, 2, 0, 3, 0, 15, 0, 11, 1, 17, 0, 45, 8, 1, 15, 1, 20, 1, 30,
                16, 1, 7, 0, 6, 6, 15, 1, 6);
        Trial.define(w, 1, 1, 1, 0, 2, 0, 15, 0, 20, 1, 31, 16, 0, 6, 15, 0, 6);
        Trial.gives("rounds before 0", 4, w, 5);
        // A long and a double come back.
        StackForge v = Trial.forge(0, 2, 0, 11, 1, 84, 22, 4, 70, 11, 2, 6);
        Trial.define(v, 1, 0, 2, 0, 21, 7, 6);
        Trial.define(v, 2, 3, 2, 0, 15, 0, 22, 16, 72, 83, 81, 6);
        gives(15, 6 + 2 + 6, v);
        // Itself: 5 * 4 * 3 * 2 * 1.
        StackForge f = Trial.forge(1, 1, 0, 15, 0, 4, 1, 15, 0, 15, 0, 20, 1, 31, 11, 0, 32, 5, 20, 1, 6,
                6);
        Trial.gives("5!", 120, f, 5);
    }

    private static void callsByPlace() {
        StackForge x = Trial.forge(1, 1, 0, 20, 50, 15, 0, 12, 1, 6);
        Trial.define(x, 1, 1, 1, 0, 15, 0, 20, 1, 30, 6);
        Trial.define(x, 2, 1, 1, 123, 15, 0, 20, 2, 30, 6);
        for (int place = 0; place < 8; place++) {
            x.table(place, 1 + place % 2);
        }
        for (int place = 0; place < 8; place++) {
            gives(51 + place % 2, 8, x, place);
        }
        // The function that is told need not have code, nor be in the table.
        StackForge y = Trial.forge(0, 2, 0, 21, 9, 20, 7, 12, 5, 6);
        y.shape(5, 2, 2, 0);
        Trial.define(y, 1, 2, 2, 0, 15, 0, 15, 0, 50, 6);
        y.table(7, 1);
        gives(18, 8, y);
    }

    private static void deepCalls() {
        StackForge x = new StackForge();
        for (int f = 0; f < 6; f++) {
            Trial.define(x, f, 0, 1, 0, f < 5 ? Trial.row(20, 1, 11, f + 1, 30, 6)
                    : Trial.row(20, 1, 6));
        }
        gives(6, 22, x);
        StackForge y = Trial.forge(1, 1, 0, 15, 0, 4, 1, 15, 0, 20, 1, 31, 11, 0, 20, 1, 30, 5, 20, 1, 6,
                6);
        for (int n = 0; n < 6; n++) {
            Trial.gives("calls " + (n + 1), n + 1, y, n);
        }
        Trial.traps("seven calls", 1, y, 6);
        Trial.gives("six calls again", 6, y, 5);
        // Many calls, one behind the other, are not deep.
        StackForge z = Trial.forge(0, 0, 0, Trial.join(Trial.repeat(20, 11, 1), Trial.row(6)));
        Trial.define(z, 1, 0, 0, 0, 6);
        Trial.ended(z);
        Trial.same("20 calls", z.count(0), 2);
        Trial.same("20 calls: steps", z.count(1), 41);
    }
}
