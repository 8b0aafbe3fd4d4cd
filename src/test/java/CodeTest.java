/** Promise 3: code. */
public final class CodeTest {
    public static void main(String[] args) {
        highestOfTheLowestFirst();
        goesBehind();
        mostBytes();
        nothingIsCheckedAnyMore();
        wrongNumbers();
        notWhileRunning();
        Trial.finish();
    }

    private static void highestOfTheLowestFirst() {
        StackForge x = new StackForge();
        x.shape(0, 0, 1, 0);
        Trial.same("one byte of many", x.code(0, 0x1122334455667714L, 1), 1);
        Trial.same("two of many", x.code(0, 0xFFFFFFFFFFFF0706L, 2), 3);
        Trial.same("no fault", x.fault(0), -1);
        Trial.gives("20 7 6", 7, x);
        StackForge y = new StackForge();
        y.shape(2, 0, 2, 0);
        Trial.same("eight bytes", y.code(2, 0x150F_1503_3301_0106L, 8), 8);
        Trial.same("no fault", y.fault(2), -1);
        y.check();
        y.start(2);
        Trial.same("steps", y.run(20), 6);
        Trial.same("15 - 3", y.result(), 12);
        // The highest byte of eight may be 128 or more: a negative number.
        StackForge z = new StackForge();
        Trial.same("negative", z.code(0, -1L, 8), 8);
        Trial.same("number 255 is bad", z.fault(0), 0);
        StackForge w = new StackForge();
        w.shape(0, 0, 1, 0);
        w.code(0, 0x14L, 1);
        w.code(0, 0x80L, 1);
        w.code(0, 6L, 1);
        Trial.gives("byte 128 with its sign", -128, w);
    }

    private static void goesBehind() {
        StackForge x = new StackForge();
        int length = 0;
        for (int count = 1; count <= 8; count++) {
            length += count;
            Trial.same("length after " + count, x.code(4, 0x0101010101010101L, count), length);
        }
        Trial.same("count", x.count(10), 36);
        Trial.same("others have none", x.count(9) + x.count(11), 0);
        Trial.same("too short", x.fault(4), 36);
        Trial.same("the end", x.code(4, 6L, 1), 37);
        Trial.same("no fault", x.fault(4), -1);
    }

    private static void mostBytes() {
        StackForge x = new StackForge();
        for (int i = 0; i < 7; i++) {
            x.code(1, 0x0101010101010101L, 8);
        }
        Trial.same("56", x.count(7), 56);
        for (int count = 5; count <= 8; count++) {
            int more = count;
            Trial.outOfBounds("56 and " + more, () -> x.code(1, 0L, more));
        }
        Trial.same("56 still", x.count(7), 56);
        Trial.same("60", x.code(1, 0x01010106L, 4), 60);
        Trial.outOfBounds("61", () -> x.code(1, 0L, 1));
        Trial.same("no fault", x.fault(1), -1);
        Trial.same("check", x.check(), 1);
        x.start(1);
        Trial.same("20", x.run(20), 20);
        Trial.same("40", x.run(20), 20);
        Trial.same("60", x.run(20), 20);
        Trial.same("done", x.count(0), 2);
        Trial.outOfBounds("still full", () -> x.code(1, 0L, 8));
        Trial.same("checked still", x.count(4), 1);
        Trial.same("another function", x.code(2, 6L, 1), 1);
    }

    private static void nothingIsCheckedAnyMore() {
        StackForge x = Trial.forge(0, 0, 0, 6);
        x.check();
        x.code(3, 6L, 1);
        Trial.same("not checked", x.count(4), 0);
        Trial.illegalState("start", () -> x.start(0));
        Trial.same("check", x.check(), 2);
        Trial.same("start", x.start(3), 0);
    }

    private static void wrongNumbers() {
        StackForge x = new StackForge();
        int[] functions = {-1, 6, Integer.MIN_VALUE, Integer.MAX_VALUE};
        for (int f : functions) {
            Trial.illegalArgument("function " + f, () -> x.code(f, 6L, 1));
        }
        int[] counts = {0, -1, 9, 16, 60, Integer.MIN_VALUE, Integer.MAX_VALUE};
        for (int count : counts) {
            Trial.illegalArgument("count " + count, () -> x.code(0, 6L, count));
        }
        Trial.same("nothing there", x.count(6), 0);
        for (int i = 0; i < 60; i++) {
            x.code(0, 1L, 1);
        }
        Trial.illegalArgument("the number before the length", () -> x.code(0, 6L, 9));
    }

    private static void notWhileRunning() {
        StackForge x = Trial.forge(0, 0, 0, 1, 6);
        for (int i = 0; i < 60; i++) {
            x.code(1, i < 59 ? 1L : 6L, 1);
        }
        x.check();
        x.start(0);
        Trial.illegalState("running", () -> x.code(0, 6L, 1));
        Trial.illegalState("running before more than 60", () -> x.code(1, 6L, 1));
        Trial.illegalArgument("the number first", () -> x.code(0, 6L, 0));
        Trial.same("length", x.count(6), 2);
        Trial.same("checked", x.count(4), 1);
        x.stop();
        Trial.same("stopped", x.code(0, 6L, 1), 3);
    }
}
