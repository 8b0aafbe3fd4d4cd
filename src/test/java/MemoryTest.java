/** Promise 15: memory. */
public final class MemoryTest {
    public static void main(String[] args) {
        everyByte();
        wrongNumbers();
        whileRunning();
        Trial.finish();
    }

    private static void everyByte() {
        StackForge x = Trial.forge(11, 0, 0, 15, 0, 15, 1, 27, 0, 6);
        for (int at = 0; at < 64; at++) {
            Trial.ended(x, at, 192 + at);
        }
        for (int at = 0; at < 64; at++) {
            Trial.same("byte " + at, x.memory(at), 192 + at);
        }
        Trial.ended(x, 7, 1000);
        Trial.same("the lowest of 1000", x.memory(7), 1000 % 256);
        Trial.same("not the next", x.memory(8), 200);
        Trial.same("not the one before", x.memory(6), 198);
        Trial.ended(x, 7, -1);
        Trial.same("the lowest of -1", x.memory(7), 255);
        x.shape(0, 0, 0, 0);
        Trial.same("after a shape", x.memory(7), 255);
    }

    private static void wrongNumbers() {
        StackForge x = new StackForge();
        int[] places = {-1, 64, 65, Integer.MIN_VALUE, Integer.MAX_VALUE};
        for (int at : places) {
            Trial.illegalArgument("byte " + at, () -> x.memory(at));
        }
    }

    private static void whileRunning() {
        StackForge x = Trial.forge(0, 0, 0, 20, 63, 20, 9, 27, 0, 1, 6);
        x.check();
        x.start(0);
        x.run(2);
        Trial.same("not yet", x.memory(63), 0);
        x.run(1);
        Trial.same("stored", x.memory(63), 9);
        x.stop();
        Trial.same("after a stop", x.memory(63), 9);
    }
}
