/** Promise 9: the TRAPS, which are thrown by which instruction and where they begin. */
public final class TrapsTest {
    public static void main(String[] args) {
        told();
        division();
        memory();
        table();
        range();
        nothingIsDone();
        Trial.finish();
    }

    private static void told() {
        Trial.traps("0", 1, Trial.forge(0, 0, 0, 0, 6));
        Trial.traps("0 within", 1, Trial.forge(0, 0, 0, 2, 0, 3, 0, 0, 6, 6, 6));
        StackForge x = Trial.forge(0, 0, 0, 11, 0, 6);
        Trial.traps("a seventh call", 1, x);
        Trial.same("steps", x.count(1), 6);
        StackForge y = Trial.forge(0, 0, 0, 20, 2, 12, 0, 6);
        y.table(2, 0);
        Trial.traps("a seventh call by place", 1, y);
        Trial.same("steps", y.count(1), 12);
    }

    private static void division() {
        for (int number = 33; number <= 34; number++) {
            Trial.traps("" + number, 2, Trial.forge(1, 1, 0, 15, 0, 20, 0, number, 6), 5);
            Trial.traps("0, " + number, 2, Trial.forge(1, 1, 0, 15, 0, 20, 0, number, 6), 0);
            Trial.ended(Trial.forge(1, 1, 0, 15, 0, 20, 1, number, 6), 0);
        }
        for (int number = 53; number <= 54; number++) {
            Trial.traps("" + number, 2, Trial.forge(2, 2, 0, 15, 0, 21, 0, number, 6), 5);
            Trial.traps("0, " + number, 2, Trial.forge(2, 2, 0, 15, 0, 21, 0, number, 6), 0);
        }
        Trial.gives("a long that is 0 as an int", 0,
                Trial.forge(2, 2, 0, 15, 0, 21, 1, 21, 32, 58, 53, 6), 5);
        Trial.traps("1.0 / 0.0", 2, Trial.forge(3, 3, 0, 15, 0, 22, 0, 73, 6), 8);
        Trial.traps("0.0 / 0.0", 2, Trial.forge(3, 3, 0, 15, 0, 22, 0, 73, 6), 0);
        Trial.traps("1.0 / -0.0", 2, Trial.forge(3, 3, 0, 15, 0, 22, 0, 22, 255, 72, 73, 6), 8);
        Trial.givesReal("0.0 / 1.0", 0.0, Trial.forge(3, 3, 0, 15, 0, 22, 8, 73, 6), 0);
    }

    private static void memory() {
        int[] numbers = {23, 24, 25, 26, 27, 28};
        int[] sizes = {4, 1, 8, 4, 1, 8};
        for (int i = 0; i < numbers.length; i++) {
            int last = 64 - sizes[i];
            for (int o = 0; o < 256; o += 51) {
                StackForge x = access(numbers[i], o);
                Trial.ended(x, last - o);
                Trial.same(numbers[i] + " at the last " + o, x.count(0), 2);
                Trial.ended(x, -o);
                Trial.same(numbers[i] + " at the first " + o, x.count(0), 2);
                Trial.traps(numbers[i] + " behind the last " + o, 3, x, last - o + 1);
                Trial.traps(numbers[i] + " before the first " + o, 3, x, -o - 1);
                Trial.traps(numbers[i] + " far behind " + o, 3, x, Integer.MAX_VALUE);
                Trial.traps(numbers[i] + " far before " + o, 3, x, Integer.MIN_VALUE);
            }
        }
        Trial.traps("o alone", 3, access(24, 64), 0);
    }

    private static StackForge access(int number, int o) {
        int[] code = {15, 0, number, o, 13, 6};
        if (number == 26 || number == 27) {
            code = Trial.row(15, 0, 20, 1, number, o, 6);
        } else if (number == 28) {
            code = Trial.row(15, 0, 21, 1, number, o, 6);
        }
        return Trial.forge(1, 0, 0, code);
    }

    private static void table() {
        // Function 0 calls by place, as function 1: an int and a long -> an int.
        StackForge x = Trial.forge(1, 1, 0, 20, 1, 21, 2, 15, 0, 12, 1, 6);
        Trial.define(x, 1, 12, 1, 0, 15, 0, 6);
        Trial.define(x, 2, 12, 1, 333, 20, 9, 6);
        Trial.define(x, 3, 21, 1, 0, 20, 9, 6);
        Trial.define(x, 4, 12, 2, 0, 21, 9, 6);
        Trial.define(x, 5, 1, 1, 2, 20, 9, 6);
        for (int f = 0; f <= 5; f++) {
            x.table(f, f);
        }
        Trial.gives("itself", 1, x, 1);
        Trial.gives("other locals", 9, x, 2);
        Trial.traps("other parameters: one", 4, x, 0);
        Trial.traps("other parameters: the other way", 4, x, 3);
        Trial.traps("another result", 4, x, 4);
        Trial.traps("other parameters: the first alone", 4, x, 5);
        Trial.traps("empty", 4, x, 6);
        Trial.traps("empty, the last", 4, x, 7);
        Trial.traps("no place", 4, x, 8);
        Trial.traps("no place: -1", 4, x, -1);
        Trial.traps("no place: the highest", 4, x, Integer.MAX_VALUE);
        Trial.traps("no place: the lowest", 4, x, Integer.MIN_VALUE);
        x.shape(2, 12, 1, 0);
        Trial.traps("without code", 4, x, 2);
        x.table(2, 1);
        Trial.gives("another there", 1, x, 2);
        x.shape(3, 123, 1, 0);
        Trial.write(x, 3, 20, 9, 6);
        Trial.traps("one more parameter", 4, x, 3);
        x.shape(4, 12, 0, 0);
        Trial.write(x, 4, 6);
        Trial.traps("no result", 4, x, 4);
        x.shape(5, 22, 1, 0);
        Trial.write(x, 5, 20, 9, 6);
        Trial.traps("other parameters: the first of two", 4, x, 5);
        x.shape(5, 11, 1, 0);
        Trial.write(x, 5, 20, 9, 6);
        Trial.traps("other parameters: the last of two", 4, x, 5);
        x.shape(5, 12, 1, 12);
        Trial.write(x, 5, 20, 9, 6);
        Trial.gives("the same parameters", 9, x, 5);
        // With six calls open: the place is looked at before the call is made.
        StackForge y = Trial.forge(1, 0, 0, 15, 0, 4, 0, 15, 0, 20, 1, 31, 20, 0, 12, 0, 5, 20, 1, 12, 1,
                6, 6);
        Trial.define(y, 1, 0, 0, 0, 6);
        y.table(0, 0);
        Trial.traps("empty, six calls deep", 4, y, 5);
        y.table(1, 1);
        Trial.traps("there, six calls deep", 1, y, 5);
        Trial.ended(y, 4);
        Trial.same("there, five calls deep", y.count(0), 2);
    }

    private static void range() {
        int[] cut = {15, 0, 15, 1, 72, 15, 2, 70, 83, 6};
        Trial.gives("the highest int", Integer.MAX_VALUE, Trial.forge(333, 1, 0, cut), 1 << 30, 128, -8);
        Trial.gives("the highest int and more", Integer.MAX_VALUE, Trial.forge(333, 1, 0, cut),
                1 << 30, 128, -1);
        Trial.traps("past the highest int", 5, Trial.forge(333, 1, 0, cut), 1 << 30, 128, 0);
        Trial.gives("the lowest int", Integer.MIN_VALUE, Trial.forge(333, 1, 0, cut), 1 << 30, -128, 0);
        Trial.gives("the lowest int and less", Integer.MIN_VALUE, Trial.forge(333, 1, 0, cut), 1 << 30,
                -128, -7);
        Trial.traps("past the lowest int", 5, Trial.forge(333, 1, 0, cut), 1 << 30, -128, -8);
        Trial.traps("far past the highest int", 5, Trial.forge(333, 1, 0, cut), 1 << 30, 1 << 30, 0);
        Trial.traps("far past the lowest int", 5, Trial.forge(333, 1, 0, cut), 1 << 30, -(1 << 30), 0);
        // Doubles: half of the most there may be, doubled, and half of what is next above it.
        double most = 1.0E300;
        double over = Math.nextUp(most);
        int[][] doublings = {{18, 2, 18, 2, 70}, {18, 2, 22, 0, 18, 2, 71, 71}, {18, 2, 22, 16, 72},
            {18, 2, 22, 4, 73}};
        for (int[] code : doublings) {
            String what = "by " + code[code.length - 1];
            for (int sign = -1; sign <= 1; sign += 2) {
                Trial.sameReal(what, doubled(code, sign * most / 2).real(), sign * most);
                StackForge x = doubled(code, sign * over / 2);
                Trial.same(what + " over: phase", x.count(0), 3);
                Trial.same(what + " over: trap", x.count(3), 5);
            }
        }
        // Far past it, where there is no number any more.
        Trial.same("product", doubled(Trial.row(18, 2, 18, 2, 72), 1.0E299).count(3), 5);
        Trial.same("product, below", doubled(Trial.row(18, 2, 22, 0, 18, 2, 71, 72), 1.0E299).count(3),
                5);
        Trial.same("quotient", doubled(Trial.row(18, 2, 22, 8, 18, 2, 73, 73), 1.0E299).count(3), 5);
        Trial.same("cut", doubled(Trial.row(18, 2, 83, 82), most).count(3), 5);
        Trial.same("cut, below", doubled(Trial.row(18, 2, 83, 82), -most).count(3), 5);
        Trial.sameReal("cut of the smallest", doubled(Trial.row(22, 8, 18, 2, 73, 83, 82), most).real(),
                0.0);
        Trial.sameReal("small", doubled(Trial.row(22, 8, 18, 2, 73), 1.0E299).real(), 1 / 1.0E299);
        Trial.sameReal("0.0 less", doubled(Trial.row(18, 2, 76), most).real(), -most);
        StackForge y = doubled(Trial.row(18, 2, 18, 2, 75, 82), most);
        Trial.sameReal("compared", y.real(), 0.0);
    }

    /** A machine with that double in GLOBAL 2, after it has run the code, which puts a double. */
    private static StackForge doubled(int[] code, double global) {
        StackForge x = Trial.forge(11, 0, 0, 15, 0, 81, 21, 32, 58, 15, 1, 85, 56, 84, 19, 2, 6);
        Trial.define(x, 1, 31, 0, 0, 3, 0, 15, 1, 4, 0, 18, 2, 15, 0, 72, 19, 2, 15, 1, 20, 1, 31, 16, 1,
                7, 1, 6, 6, 6);
        Trial.define(x, 2, 0, 3, 0, Trial.join(code, Trial.row(6)));
        x.check();
        int exponent = Math.getExponent(global) - 52;
        double mantissa = global / Math.pow(2, exponent);
        long whole = (long) mantissa;
        Trial.begin(x, 0, (int) (whole >> 32), (int) whole);
        Trial.end(x);
        Trial.begin(x, 1, 1 << 30, exponent / 27);
        Trial.end(x);
        Trial.begin(x, 1, 16, exponent % 27);
        Trial.end(x);
        Trial.sameReal("global 2", x.realGlobal(), global);
        x.start(2);
        Trial.end(x);
        return x;
    }

    private static void nothingIsDone() {
        StackForge x = Trial.forge(0, 0, 0, 20, 60, 20, 255, 26, 0, 20, 61, 20, 1, 26, 0, 6);
        Trial.traps("store", 3, x);
        for (int at = 60; at < 64; at++) {
            Trial.same("byte " + at, x.memory(at), 255);
        }
        StackForge y = Trial.forge(0, 0, 0, 20, 61, 21, 1, 28, 0, 6);
        Trial.traps("store a long", 3, y);
        Trial.same("no byte", y.wipe(), 0);
    }
}
