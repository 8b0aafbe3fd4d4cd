/** Promise 9: the instructions 30 .. 85, on numbers in the middle and at the edges. */
public final class NumbersTest {
    private static final int[] INTS = {0, 1, -1, 2, -2, 3, 7, -7, 31, 32, 33, 63, 64, 100, -100, 65535,
        65536, 1 << 30, Integer.MIN_VALUE, Integer.MIN_VALUE + 1, Integer.MAX_VALUE};
    private static final long[] LONGS = {0, 1, -1, 2, -2, 3, 7, -7, 31, 32, 63, 64, 65, 1L << 31,
        1L << 32, -(1L << 31), -(1L << 32), (1L << 32) + 5, 0x123456789ABCDEFL, Long.MIN_VALUE,
        Long.MIN_VALUE + 1, Long.MAX_VALUE};
    private static final int[] EIGHTHS = {0, 1, -1, 4, 8, -8, 9, 20, -20, 1000, -1001,
        Integer.MAX_VALUE, Integer.MIN_VALUE};

    public static void main(String[] args) {
        ints();
        longs();
        reals();
        conversions();
        Trial.finish();
    }

    private static long after(StackForge x, int function, int... arguments) {
        Trial.begin(x, function, arguments);
        Trial.end(x);
        return x.count(0) == StackForge.DONE ? x.result() : 0;
    }

    private static double realAfter(StackForge x, int function, int... arguments) {
        Trial.begin(x, function, arguments);
        Trial.end(x);
        return x.count(0) == StackForge.DONE ? x.real() : 0;
    }

    private static void ints() {
        for (int number = 30; number <= 44; number++) {
            for (int a : INTS) {
                StackForge x = Trial.forge(11, 1, 0, 15, 0, 15, 1, number, 6);
                x.check();
                for (int b : INTS) {
                    if (b != 0 || (number != 33 && number != 34)) {
                        Trial.same(a + " " + number + " " + b, after(x, 0, a, b), ofInts(number, a, b));
                        Trial.same(a + " " + number + " " + b + ": phase", x.count(0), 2);
                    }
                }
            }
        }
        for (int a : INTS) {
            Trial.gives("45 of " + a, a == 0 ? 1 : 0, Trial.forge(1, 1, 0, 15, 0, 45, 6), a);
        }
    }

    private static int ofInts(int number, int a, int b) {
        switch (number) {
            case 30: return (int) ((long) a + b);
            case 31: return (int) ((long) a - b);
            case 32: return (int) ((long) a * b);
            case 33: return (int) ((long) a / b);
            case 34: return (int) ((long) a % b);
            case 35: return a & b;
            case 36: return a | b;
            case 37: return a ^ b;
            case 38: return a << (b & 31);
            case 39: return a >> (b & 31);
            case 40: return a >>> (b & 31);
            case 41: return a == b ? 1 : 0;
            case 42: return a == b ? 0 : 1;
            case 43: return a < b ? 1 : 0;
            default: return Integer.compareUnsigned(a, b) < 0 ? 1 : 0;
        }
    }

    /** Function 0: an int and an int become the long in GLOBAL 1; function 1: the number on it. */
    private static StackForge longForge(int number, int result) {
        StackForge x = Trial.forge(11, 0, 0, Trial.join(Trial.MAKE_LONG, Trial.row(19, 1, 6)));
        Trial.define(x, 1, 0, result, 0, 18, 1, number, 6);
        x.check();
        return x;
    }

    /** Likewise, but function 1 makes another long of two ints, on which the number is done too. */
    private static StackForge twoLongsForge(int number, int result) {
        StackForge x = Trial.forge(11, 0, 0, Trial.join(Trial.MAKE_LONG, Trial.row(19, 1, 6)));
        Trial.define(x, 1, 11, result, 0,
                Trial.join(Trial.row(18, 1), Trial.MAKE_LONG, Trial.row(number, 6)));
        x.check();
        return x;
    }

    private static void setLong(StackForge x, long a) {
        Trial.begin(x, 0, (int) (a >> 32), (int) a);
        Trial.end(x);
        Trial.same("global 1", x.global(1), a);
    }

    private static void longs() {
        for (int number = 50; number <= 63; number++) {
            for (long a : LONGS) {
                StackForge x = twoLongsForge(number, number <= 60 ? 2 : 1);
                setLong(x, a);
                for (long b : LONGS) {
                    if (b != 0 || (number != 53 && number != 54)) {
                        Trial.same(a + " " + number + " " + b,
                                after(x, 1, (int) (b >> 32), (int) b), ofLongs(number, a, b));
                        Trial.same(a + " " + number + " " + b + ": phase", x.count(0), 2);
                    }
                }
            }
        }
        for (long a : LONGS) {
            StackForge x = longForge(64, 1);
            setLong(x, a);
            Trial.same("64 of " + a, after(x, 1), a == 0 ? 1 : 0);
        }
    }

    private static long ofLongs(int number, long a, long b) {
        switch (number) {
            case 50: return a + b;
            case 51: return a - b;
            case 52: return a * b;
            case 53: return a / b;
            case 54: return a % b;
            case 55: return a & b;
            case 56: return a | b;
            case 57: return a ^ b;
            case 58: return a << (b & 63);
            case 59: return a >> (b & 63);
            case 60: return a >>> (b & 63);
            case 61: return a == b ? 1 : 0;
            case 62: return a == b ? 0 : 1;
            default: return a < b ? 1 : 0;
        }
    }

    private static void reals() {
        for (int number = 70; number <= 75; number++) {
            for (int a : EIGHTHS) {
                StackForge x = Trial.forge(33, number <= 73 ? 3 : 1, 0, 15, 0, 15, 1, number, 6);
                x.check();
                for (int b : EIGHTHS) {
                    if (number <= 73 && (b != 0 || number != 73)) {
                        Trial.sameReal(a + "/8 " + number + " " + b + "/8", realAfter(x, 0, a, b),
                                ofReals(number, a / 8.0, b / 8.0));
                    } else if (number > 73) {
                        Trial.same(a + "/8 " + number + " " + b + "/8", after(x, 0, a, b),
                                number == 74 ? (a == b ? 1 : 0) : (a < b ? 1 : 0));
                    }
                }
            }
        }
        for (int a : EIGHTHS) {
            Trial.givesReal("76 of " + a, -(a / 8.0), Trial.forge(3, 3, 0, 15, 0, 76, 6), a);
        }
        Trial.gives("0.0 = -0.0", 1, Trial.forge(3, 1, 0, 15, 0, 22, 0, 22, 255, 72, 74, 6), 0);
        Trial.gives("-0.0 < 0.0", 0, Trial.forge(3, 1, 0, 22, 0, 22, 255, 72, 15, 0, 75, 6), 0);
        Trial.givesReal("a third", 1.0 / 3.0, Trial.forge(33, 3, 0, 15, 0, 15, 1, 73, 6), 8, 24);
    }

    private static double ofReals(int number, double a, double b) {
        switch (number) {
            case 70: return a + b;
            case 71: return a - b;
            case 72: return a * b;
            default: return a / b;
        }
    }

    private static void conversions() {
        for (int a : INTS) {
            Trial.gives("81 of " + a, a, Trial.forge(1, 2, 0, 15, 0, 81, 6), a);
            Trial.givesReal("82 of " + a, a, Trial.forge(1, 3, 0, 15, 0, 82, 6), a);
            Trial.gives("82, 83 of " + a, a, Trial.forge(1, 1, 0, 15, 0, 82, 83, 6), a);
            Trial.gives("85 of " + a, Integer.toUnsignedLong(a), Trial.forge(1, 2, 0, 15, 0, 85, 6), a);
            Trial.gives("83 of " + a + "/8", a / 8, Trial.forge(3, 1, 0, 15, 0, 83, 6), a);
        }
        for (long a : LONGS) {
            StackForge x = longForge(80, 1);
            setLong(x, a);
            Trial.same("80 of " + a, after(x, 1), (int) a);
            StackForge y = longForge(84, 3);
            setLong(y, a);
            Trial.sameReal("84 of " + a, realAfter(y, 1), (double) a);
        }
        int[] eighths = {0, 1, 7, 8, 9, 15, 16, -1, -7, -8, -9, -15, -16};
        int[] due = {0, 0, 0, 1, 1, 1, 2, 0, 0, -1, -1, -1, -2};
        for (int i = 0; i < due.length; i++) {
            Trial.gives("83 of " + eighths[i] + "/8", due[i], Trial.forge(3, 1, 0, 15, 0, 83, 6),
                    eighths[i]);
        }
    }
}
