/** Promise 9: the instructions 23 .. 28. */
public final class LoadAndStoreTest {
    public static void main(String[] args) {
        ints();
        bytes();
        longs();
        places();
        Trial.finish();
    }

    private static void bytesAre(String what, StackForge x, int from, int... due) {
        for (int i = 0; i < due.length; i++) {
            Trial.same(what + ": byte " + (from + i), x.memory(from + i), due[i]);
        }
    }

    private static void ints() {
        StackForge x = Trial.forge(11, 0, 0, 15, 0, 15, 1, 26, 0, 6);
        Trial.define(x, 1, 1, 1, 0, 15, 0, 23, 0, 6);
        Trial.ended(x, 10, 0x81020304);
        bytesAre("26", x, 9, 0, 4, 3, 2, 0x81, 0);
        Trial.begin(x, 1, 10);
        Trial.end(x);
        Trial.same("23", x.result(), 0x81020304);
        Trial.begin(x, 1, 11);
        Trial.end(x);
        Trial.same("23, a byte on", x.result(), 0x00810203);
        Trial.begin(x, 1, 9);
        Trial.end(x);
        Trial.same("23, a byte before", x.result(), 0x02030400);
        Trial.ended(x, 10, -1);
        bytesAre("26 of -1", x, 9, 0, 255, 255, 255, 255, 0);
        Trial.begin(x, 1, 10);
        Trial.end(x);
        Trial.same("23 of -1", x.result(), -1);
    }

    private static void bytes() {
        StackForge x = Trial.forge(11, 1, 0, 15, 0, 15, 1, 27, 0, 15, 0, 24, 0, 6);
        int[] numbers = {0, 1, 127, 128, 255, 256, -1, -128, 0x12345678, Integer.MIN_VALUE};
        for (int n : numbers) {
            Trial.gives("27 and 24 of " + n, n & 255, x, 20, n);
            bytesAre("27 of " + n, x, 19, 0, n & 255, 0);
        }
        // What is beside the byte stays, and is not loaded with it.
        Trial.ended(x, 19, 77);
        Trial.ended(x, 21, 99);
        Trial.gives("27 and 24 between others", 200, x, 20, 200);
        bytesAre("27 between others", x, 18, 0, 77, 200, 99, 0);
    }

    private static void longs() {
        // The long is hi * 2^32 + lo.
        StackForge x = Trial.forge(111, 0, 0, 15, 0, 15, 1, 81, 21, 32, 58, 15, 2, 85, 56, 28, 0, 6);
        Trial.define(x, 1, 1, 2, 0, 15, 0, 25, 0, 6);
        Trial.define(x, 2, 1, 1, 0, 15, 0, 23, 0, 6);
        Trial.ended(x, 30, 0x91020304, 0x85060708);
        bytesAre("28", x, 29, 0, 8, 7, 6, 0x85, 4, 3, 2, 0x91, 0);
        Trial.begin(x, 1, 30);
        Trial.end(x);
        Trial.same("25", x.result(), 0x9102030485060708L);
        Trial.begin(x, 1, 31);
        Trial.end(x);
        Trial.same("25, a byte on", x.result(), 0x0091020304850607L);
        Trial.begin(x, 2, 30);
        Trial.end(x);
        Trial.same("23 of its lower half", x.result(), 0x85060708);
        Trial.ended(x, 30, -1, -1);
        Trial.begin(x, 1, 30);
        Trial.end(x);
        Trial.same("25 of -1", x.result(), -1);
        Trial.begin(x, 2, 30);
        Trial.end(x);
        Trial.same("23 of -1", x.result(), -1);
    }

    private static void places() {
        // a may be below 0 if o makes up for it, and o is 0 .. 255, without a sign.
        int[] os = {0, 1, 63, 127, 128, 200, 255};
        for (int o : os) {
            StackForge x = Trial.forge(11, 1, 0, 15, 0, 15, 1, 26, o, 15, 0, 23, o, 6);
            Trial.gives("26 and 23 with " + o, 0x01020304, x, 40 - o, 0x01020304);
            bytesAre("26 with " + o, x, 39, 0, 4, 3, 2, 1, 0);
            Trial.same("four bytes", x.wipe(), 4);
            StackForge y = Trial.forge(12, 2, 0, 15, 0, 15, 1, 28, o, 15, 0, 25, o, 6);
            Trial.gives("28 and 25 with " + o, -2, y, 40 - o, -2);
            bytesAre("28 with " + o, y, 39, 0, 254, 255, 255, 255, 255, 255, 255, 255, 0);
            StackForge z = Trial.forge(11, 1, 0, 15, 0, 15, 1, 27, o, 15, 0, 24, o, 6);
            Trial.gives("27 and 24 with " + o, 254, z, 40 - o, -2);
            bytesAre("27 with " + o, z, 39, 0, 254, 0);
        }
    }
}
