/** Promise 2: shape. */
public final class ShapeTest {
    public static void main(String[] args) {
        countsVariables();
        kindsFromTheLeft();
        givesTheResult();
        takesTheCodeAway();
        nothingIsCheckedAnyMore();
        wrongNumbers();
        notWhileRunning();
        throwingChangesNothing();
        Trial.finish();
    }

    private static void countsVariables() {
        StackForge x = new StackForge();
        Trial.same("none", x.shape(0, 0, 0, 0), 0);
        Trial.same("one parameter", x.shape(1, 3, 0, 0), 1);
        Trial.same("two locals", x.shape(2, 0, 0, 12), 2);
        Trial.same("three and one", x.shape(3, 123, 1, 2), 4);
        Trial.same("three and three", x.shape(4, 333, 3, 111), 6);
        Trial.same("two and three", x.shape(5, 31, 2, 213), 5);
        Trial.same("smaller again", x.shape(4, 2, 3, 0), 1);
    }

    private static void kindsFromTheLeft() {
        Trial.same("parameter 0", Trial.fault(123, 1, 321, 15, 0, 6), -1);
        Trial.same("parameter 1", Trial.fault(123, 2, 321, 15, 1, 6), -1);
        Trial.same("parameter 2", Trial.fault(123, 3, 321, 15, 2, 6), -1);
        Trial.same("local 3", Trial.fault(123, 3, 321, 15, 3, 6), -1);
        Trial.same("local 4", Trial.fault(123, 2, 321, 15, 4, 6), -1);
        Trial.same("local 5", Trial.fault(123, 1, 321, 15, 5, 6), -1);
        Trial.same("no variable 6", Trial.fault(123, 1, 321, 15, 6, 6), 0);
        Trial.same("local behind one parameter", Trial.fault(1, 2, 23, 15, 1, 6), -1);
        Trial.same("no variable 3", Trial.fault(1, 2, 23, 15, 3, 6), 0);
        Trial.same("two digits", Trial.fault(32, 3, 0, 15, 0, 6), -1);
        Trial.same("two digits, the second", Trial.fault(32, 2, 0, 15, 1, 6), -1);
        // The number of PARAMETERS is also what start asks for.
        StackForge x = Trial.forge(12, 0, 3, 6);
        x.check();
        x.argue(1);
        Trial.unsupported("one of two", () -> x.start(0));
        x.argue(2);
        Trial.same("two of two", x.start(0), 2);
    }

    private static void givesTheResult() {
        for (int kind = 1; kind <= 3; kind++) {
            int[] code = Trial.join(Trial.PUSH[kind], Trial.row(6));
            for (int result = 0; result <= 3; result++) {
                Trial.same("result " + result + " of kind " + kind,
                        Trial.fault(0, result, 0, code), result == kind ? -1 : 2);
            }
        }
    }

    private static void takesTheCodeAway() {
        StackForge x = Trial.forge(0, 0, 0, 1, 1, 6);
        Trial.define(x, 1, 0, 0, 0, 6);
        Trial.same("length", x.count(6), 3);
        x.shape(0, 0, 0, 0);
        Trial.same("length after shape", x.count(6), 0);
        Trial.same("length of another", x.count(7), 1);
        Trial.same("fault after shape", x.fault(0), 0);
        Trial.same("check after shape", x.check(), 1);
        Trial.write(x, 0, 6);
        Trial.same("code from the beginning", x.count(6), 1);
        Trial.same("fault of new code", x.fault(0), -1);
    }

    private static void nothingIsCheckedAnyMore() {
        StackForge x = Trial.forge(0, 0, 0, 6);
        x.check();
        Trial.same("checked", x.count(4), 1);
        x.shape(5, 0, 0, 0);
        Trial.same("not checked", x.count(4), 0);
        Trial.illegalState("start", () -> x.start(0));
    }

    private static void wrongNumbers() {
        StackForge x = new StackForge();
        int[] functions = {-1, 6, 7, Integer.MIN_VALUE, Integer.MAX_VALUE};
        for (int f : functions) {
            Trial.illegalArgument("function " + f, () -> x.shape(f, 0, 0, 0));
        }
        int[] rows = {-1, -11, 4, 5, 9, 10, 14, 20, 30, 34, 40, 41, 100, 101, 110, 104, 140, 141,
            300, 334, 343, 411, 433, 1000, 1111, 3333, 1110, 11111, Integer.MIN_VALUE,
            Integer.MAX_VALUE};
        for (int row : rows) {
            Trial.illegalArgument("parameters " + row, () -> x.shape(0, row, 0, 0));
            Trial.illegalArgument("locals " + row, () -> x.shape(0, 0, 0, row));
        }
        int[] results = {-1, 4, 11, Integer.MIN_VALUE, Integer.MAX_VALUE};
        for (int result : results) {
            Trial.illegalArgument("result " + result, () -> x.shape(0, 0, result, 0));
        }
        int[] right = {0, 1, 2, 3, 11, 13, 21, 33, 111, 123, 231, 313, 333};
        for (int row : right) {
            int due = row == 0 ? 0 : ("" + row).length();
            Trial.same("parameters " + row, x.shape(0, row, 0, 0), due);
            Trial.same("locals " + row, x.shape(0, 0, 3, row), due);
        }
    }

    private static void notWhileRunning() {
        StackForge x = Trial.forge(0, 0, 0, 1, 6);
        x.check();
        x.start(0);
        Trial.illegalState("running", () -> x.shape(0, 0, 0, 0));
        Trial.illegalState("running, another", () -> x.shape(3, 1, 1, 1));
        Trial.illegalArgument("the number first", () -> x.shape(6, 0, 0, 0));
        Trial.illegalArgument("the digits first", () -> x.shape(0, 0, 0, 4));
        Trial.same("still as it was", x.run(20), 2);
        Trial.same("done: again", x.shape(0, 1, 0, 0), 1);
    }

    private static void throwingChangesNothing() {
        StackForge x = Trial.forge(12, 1, 3, 15, 0, 6);
        x.check();
        Trial.illegalArgument("parameters", () -> x.shape(0, 4, 2, 0));
        Trial.illegalArgument("result", () -> x.shape(0, 3, 4, 0));
        Trial.illegalArgument("locals", () -> x.shape(0, 3, 2, 10));
        Trial.same("length", x.count(6), 3);
        Trial.same("checked", x.count(4), 1);
        Trial.same("fault", x.fault(0), -1);
    }
}
