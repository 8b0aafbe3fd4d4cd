/** Promise 9: where whole numbers wrap, are cut or are masked, each told by its own numbers. */
public final class WrapAroundTest {
    private static final int LEAST = Integer.MIN_VALUE;
    private static final int MOST = Integer.MAX_VALUE;
    private static final long LEAST_LONG = Long.MIN_VALUE;
    private static final long MOST_LONG = Long.MAX_VALUE;

    public static void main(String[] args) {
        intsWrap();
        intsAreCut();
        intShifts();
        intsWithoutSigns();
        longsWrap();
        longsAreCut();
        longShifts();
        longsCompared();
        conversions();
        Trial.finish();
    }

    private static void ints(int number, int x, int y, int due) {
        StackForge forge = Trial.forge(11, 1, 0, 15, 0, 15, 1, number, 6);
        Trial.gives(x + " " + number + " " + y, due, forge, x, y);
    }

    private static void intsWrap() {
        ints(30, MOST, 1, LEAST);
        ints(30, LEAST, -1, MOST);
        ints(30, LEAST, LEAST, 0);
        ints(30, MOST, MOST, -2);
        ints(31, LEAST, 1, MOST);
        ints(31, MOST, -1, LEAST);
        ints(31, 0, LEAST, LEAST);
        ints(32, MOST, 2, -2);
        ints(32, LEAST, 2, 0);
        ints(32, LEAST, -1, LEAST);
        ints(32, 65536, 65536, 0);
        ints(32, 65536, 32768, LEAST);
        ints(32, MOST, MOST, 1);
    }

    private static void intsAreCut() {
        ints(33, LEAST, -1, LEAST);
        ints(34, LEAST, -1, 0);
        ints(33, 7, 2, 3);
        ints(33, -7, 2, -3);
        ints(33, 7, -2, -3);
        ints(33, -7, -2, 3);
        ints(33, 1, 2, 0);
        ints(33, -1, 2, 0);
        ints(34, 7, 2, 1);
        ints(34, -7, 2, -1);
        ints(34, 7, -2, 1);
        ints(34, -7, -2, -1);
        ints(33, LEAST, 1, LEAST);
        ints(33, LEAST, LEAST, 1);
        ints(33, MOST, LEAST, 0);
        ints(34, MOST, LEAST, MOST);
    }

    private static void intShifts() {
        ints(38, 1, 0, 1);
        ints(38, 1, 31, LEAST);
        ints(38, 1, 32, 1);
        ints(38, 1, 33, 2);
        ints(38, 1, -1, LEAST);
        ints(38, 3, 31, LEAST);
        ints(38, 5, LEAST, 5);
        ints(39, -8, 1, -4);
        ints(39, -8, 31, -1);
        ints(39, -8, 32, -8);
        ints(39, -8, -31, -4);
        ints(39, LEAST, 31, -1);
        ints(40, -8, 28, 15);
        ints(40, -1, 31, 1);
        ints(40, -1, 32, -1);
        ints(40, -1, 33, MOST);
        ints(40, LEAST, -1, 1);
    }

    private static void intsWithoutSigns() {
        ints(43, LEAST, MOST, 1);
        ints(44, LEAST, MOST, 0);
        ints(43, -1, 0, 1);
        ints(44, -1, 0, 0);
        ints(43, 0, -1, 0);
        ints(44, 0, -1, 1);
        ints(44, MOST, LEAST, 1);
        ints(44, -2, -1, 1);
        ints(44, -1, -1, 0);
        ints(44, 0, 0, 0);
        ints(43, LEAST, LEAST, 0);
        ints(41, LEAST, LEAST, 1);
        ints(41, LEAST, MOST, 0);
        ints(42, LEAST, MOST, 1);
        ints(42, MOST, MOST, 0);
        for (int a : new int[] {LEAST, -1, 1, 256, 65536, MOST}) {
            Trial.gives("45 of " + a, 0, Trial.forge(1, 1, 0, 15, 0, 45, 6), a);
        }
        Trial.gives("45 of 0", 1, Trial.forge(1, 1, 0, 15, 0, 45, 6), 0);
    }

    /** Puts x in GLOBAL 1, then runs the number on it and a y that is made of two ints. */
    private static void longs(int number, long x, long y, long due) {
        StackForge forge = Trial.forge(11, 0, 0, Trial.join(Trial.MAKE_LONG, Trial.row(19, 1, 6)));
        Trial.define(forge, 1, 11, number >= 61 ? 1 : 2, 0,
                Trial.join(Trial.row(18, 1), Trial.MAKE_LONG, Trial.row(number, 6)));
        Trial.ended(forge, (int) (x >> 32), (int) x);
        Trial.begin(forge, 1, (int) (y >> 32), (int) y);
        Trial.end(forge);
        String what = x + " " + number + " " + y;
        Trial.same(what + ": phase", forge.count(0), StackForge.DONE);
        Trial.same(what, forge.count(0) == StackForge.DONE ? forge.result() : 0, due);
    }

    private static void longsWrap() {
        longs(50, MOST_LONG, 1, LEAST_LONG);
        longs(50, LEAST_LONG, -1, MOST_LONG);
        longs(50, LEAST_LONG, LEAST_LONG, 0);
        longs(50, MOST, 1, 2147483648L);
        longs(51, LEAST_LONG, 1, MOST_LONG);
        longs(51, MOST_LONG, -1, LEAST_LONG);
        longs(51, LEAST, 1, -2147483649L);
        longs(52, MOST_LONG, 2, -2);
        longs(52, LEAST_LONG, -1, LEAST_LONG);
        longs(52, 4294967296L, 4294967296L, 0);
        longs(52, 65536, 65536, 4294967296L);
        longs(52, MOST_LONG, MOST_LONG, 1);
    }

    private static void longsAreCut() {
        longs(53, LEAST_LONG, -1, LEAST_LONG);
        longs(54, LEAST_LONG, -1, 0);
        longs(53, LEAST, -1, 2147483648L);
        longs(53, -7, 2, -3);
        longs(53, 7, -2, -3);
        longs(53, -1, 4294967296L, 0);
        longs(54, -7, 2, -1);
        longs(54, 7, -2, 1);
        longs(54, LEAST_LONG, MOST_LONG, -1);
    }

    private static void longShifts() {
        longs(58, 1, 31, 2147483648L);
        longs(58, 1, 32, 4294967296L);
        longs(58, 1, 63, LEAST_LONG);
        longs(58, 1, 64, 1);
        longs(58, 1, 65, 2);
        longs(58, 1, -1, LEAST_LONG);
        longs(58, 5, 4294967296L, 5);
        longs(59, -8, 1, -4);
        longs(59, -8, 63, -1);
        longs(59, -8, 64, -8);
        longs(59, LEAST_LONG, -1, -1);
        longs(60, -8, 60, 15);
        longs(60, -1, 63, 1);
        longs(60, -1, 64, -1);
        longs(60, -1, 65, MOST_LONG);
        longs(60, -1, 32, 4294967295L);
    }

    private static void longsCompared() {
        longs(61, 4294967296L, 0, 0);
        longs(61, LEAST_LONG, LEAST_LONG, 1);
        longs(62, 4294967296L, 0, 1);
        longs(62, MOST_LONG, MOST_LONG, 0);
        longs(63, LEAST_LONG, MOST_LONG, 1);
        longs(63, MOST_LONG, LEAST_LONG, 0);
        longs(63, -1, 0, 1);
        longs(63, 4294967296L, 1, 0);
        longs(63, 7, 7, 0);
    }

    private static void converted(int number, int result, long x, long due) {
        StackForge forge = Trial.forge(11, result, 0, Trial.join(Trial.MAKE_LONG, Trial.row(number, 6)));
        Trial.gives(number + " of " + x, due, forge, (int) (x >> 32), (int) x);
    }

    private static void cast(long x, double due) {
        StackForge forge = Trial.forge(11, 3, 0, Trial.join(Trial.MAKE_LONG, Trial.row(84, 6)));
        Trial.givesReal("84 of " + x, due, forge, (int) (x >> 32), (int) x);
    }

    private static void conversions() {
        converted(80, 1, 2147483648L, LEAST);
        converted(80, 1, 4294967296L, 0);
        converted(80, 1, 4294967295L, -1);
        converted(80, 1, -2147483649L, MOST);
        converted(80, 1, LEAST_LONG, 0);
        converted(80, 1, MOST_LONG, -1);
        converted(64, 1, 4294967296L, 0);
        converted(64, 1, LEAST_LONG, 0);
        converted(64, 1, 0, 1);
        Trial.gives("81 of -1", -1, Trial.forge(1, 2, 0, 15, 0, 81, 6), -1);
        Trial.gives("81 of the least", -2147483648L, Trial.forge(1, 2, 0, 15, 0, 81, 6), LEAST);
        Trial.gives("85 of -1", 4294967295L, Trial.forge(1, 2, 0, 15, 0, 85, 6), -1);
        Trial.gives("85 of the least", 2147483648L, Trial.forge(1, 2, 0, 15, 0, 85, 6), LEAST);
        Trial.gives("85 of the most", 2147483647L, Trial.forge(1, 2, 0, 15, 0, 85, 6), MOST);
        Trial.givesReal("82 of the least", -2147483648.0, Trial.forge(1, 3, 0, 15, 0, 82, 6), LEAST);
        // A long of more than 53 bits is rounded, to the even one if it is in the middle.
        cast(9007199254740992L, 9007199254740992.0);
        cast(9007199254740993L, 9007199254740992.0);
        cast(9007199254740995L, 9007199254740996.0);
        cast(MOST_LONG, 9223372036854775808.0);
        cast(LEAST_LONG, -9223372036854775808.0);
    }
}
