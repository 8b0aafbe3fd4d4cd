/** Promise 16: wipe. */
public final class WipeTest {
    public static void main(String[] args) {
        bytes();
        globals();
        notWhileRunning();
        leavesTheRest();
        Trial.finish();
    }

    private static void bytes() {
        StackForge x = Trial.forge(11, 0, 0, 15, 0, 15, 1, 26, 0, 6);
        Trial.same("nothing there", x.wipe(), 0);
        Trial.ended(x, 60, 0x01000203);
        Trial.same("three are not 0", x.wipe(), 3);
        Trial.same("none any more", x.wipe(), 0);
        for (int at = 0; at < 64; at++) {
            Trial.same("byte " + at, x.memory(at), 0);
        }
        for (int at = 0; at < 64; at += 4) {
            Trial.ended(x, at, -1);
        }
        Trial.same("all", x.wipe(), 64);
        for (int at = 0; at < 64; at++) {
            Trial.same("byte " + at, x.memory(at), 0);
        }
    }

    private static void globals() {
        StackForge x = Trial.forge(123, 0, 0, 15, 0, 19, 0, 15, 1, 19, 1, 15, 2, 19, 2, 6);
        Trial.ended(x, 1, 2, 3);
        Trial.same("globals are no bytes", x.wipe(), 0);
        Trial.same("global 0", x.global(0), 0);
        Trial.same("global 1", x.global(1), 0);
        Trial.sameReal("global 2", x.realGlobal(), 0.0);
    }

    private static void notWhileRunning() {
        StackForge x = Trial.forge(0, 0, 0, 20, 1, 19, 0, 20, 0, 20, 5, 27, 9, 1, 6);
        x.check();
        x.start(0);
        x.run(5);
        Trial.illegalState("running", () -> x.wipe());
        Trial.same("the byte is there", x.memory(9), 5);
        Trial.same("the global is there", x.global(0), 1);
        x.stop();
        Trial.same("idle", x.wipe(), 1);
    }

    private static void leavesTheRest() {
        StackForge x = Trial.forge(0, 1, 0, 20, 0, 20, 5, 27, 9, 20, 3, 6);
        x.table(1, 4);
        Trial.gives("3", 3, x);
        x.argue(1);
        Trial.same("done", x.wipe(), 1);
        Trial.same("result", x.result(), 3);
        Trial.same("phase", x.count(0), 2);
        Trial.same("steps", x.count(1), 5);
        Trial.same("checked", x.count(4), 1);
        Trial.same("arguments", x.count(5), 1);
        Trial.same("code", x.count(6), 9);
        Trial.same("table", x.table(1, -1), 4);
    }
}
