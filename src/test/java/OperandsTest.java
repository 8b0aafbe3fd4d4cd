/** Promise 6: what is told behind the number of an instruction: each of the 256 bytes there. */
public final class OperandsTest {
    public static void main(String[] args) {
        kinds();
        frames();
        howMany();
        functions();
        variables();
        globals();
        anyByte();
        onDeadGround();
        Trial.finish();
    }

    private static void same(String what, int b, int due, int parameters, int... code) {
        Trial.same(what + " " + b, Trial.fault(parameters, 0, 0, code), due);
    }

    private static void kinds() {
        for (int k = 0; k < 256; k++) {
            for (int begin = 2; begin <= 3; begin++) {
                same("k of " + begin, k, k <= 3 ? -1 : 0, 0, begin, k, 0, 6, 10, 6);
            }
            same("k of 4", k, k <= 3 ? -1 : 2, 0,
                    20, 1, 4, k, 0, 5, 0, 6, 10, 6);
        }
    }

    private static void frames() {
        for (int d = 0; d < 256; d++) {
            int[] three = {2, 0, 3, 0};
            int[] ends = {6, 6, 6};
            same("d of 7", d, d <= 2 ? -1 : 4, 0, Trial.join(three, Trial.row(7, d), ends));
            same("d of 8", d, d <= 2 ? -1 : 6, 0,
                    Trial.join(three, Trial.row(20, 1, 8, d), ends));
            same("the only d of 9", d, d <= 2 ? -1 : 6, 0,
                    Trial.join(three, Trial.row(20, 1, 9, 0, d), ends));
            for (int place = 0; place < 4; place++) {
                int[] row = {20, 1, 9, 3, 0, 1, 2, 0};
                row[4 + place] = d;
                same("d " + place + " of 9", d, d <= 2 ? -1 : 6, 0,
                        Trial.join(three, row, ends));
            }
        }
    }

    private static void howMany() {
        for (int n = 0; n < 256; n++) {
            int[] begin = {20, 1, 9, n};
            int[] jumps = Trial.repeat(Math.min(n, 3) + 1, 0);
            same("n of 9", n, n <= 3 ? -1 : 2, 0, Trial.join(begin, jumps, Trial.row(6)));
            same("n of 9, without its jumps", n, n <= 3 ? 4 : 2, 0, begin);
            same("n of 9, all but one", n, n <= 3 ? 4 + Math.min(n, 3) : 2, 0,
                    Trial.join(begin, Trial.repeat(Math.min(n, 3), 0)));
        }
    }

    private static void functions() {
        for (int number = 11; number <= 12; number++) {
            for (int f = 0; f < 256; f++) {
                StackForge x = new StackForge();
                for (int other = 1; other < 5; other++) {
                    Trial.write(x, other, 6);
                }
                int[] place = number == 12 ? Trial.row(20, 0) : Trial.row(1, 1);
                Trial.write(x, 0, Trial.join(place, Trial.row(number, f, 6)));
                // Function 5 has no CODE.
                boolean good = f <= 4 || (f == 5 && number == 12);
                Trial.same("f of " + number + " " + f, x.fault(0), good ? -1 : 2);
            }
        }
    }

    private static void variables() {
        for (int v = 0; v < 256; v++) {
            for (int parameters : new int[] {0, 1, 11, 111}) {
                int has = parameters == 0 ? 0 : ("" + parameters).length();
                int due = v < has ? -1 : 2;
                same("v of 15", v, due, parameters, 1, 1, 15, v, 13, 6);
                same("v of 16", v, due, parameters, 20, 7, 16, v, 6);
                same("v of 17", v, due, parameters, 20, 7, 17, v, 13, 6);
            }
            Trial.same("v of 15 of six " + v, Trial.fault(111, 0, 111, 15, v, 13, 6), v < 6 ? -1 : 0);
            Trial.same("v of 15 of three locals " + v, Trial.fault(0, 0, 111, 15, v, 13, 6),
                    v < 3 ? -1 : 0);
        }
    }

    private static void globals() {
        for (int g = 0; g < 256; g++) {
            same("g of 18", g, g <= 2 ? -1 : 0, 0, 18, g, 13, 6);
            int[] push = g <= 2 ? Trial.PUSH[g + 1] : Trial.PUSH[1];
            same("g of 19", g, g <= 2 ? -1 : 2, 0, Trial.join(push, Trial.row(19, g, 6)));
        }
    }

    /** b and o may be any byte, those too that are the number of an instruction. */
    private static void anyByte() {
        for (int b = 0; b < 256; b++) {
            for (int number = 20; number <= 22; number++) {
                same("b of " + number, b, -1, 0, number, b, 13, 6);
            }
            for (int number = 23; number <= 25; number++) {
                same("o of " + number, b, -1, 0, 20, 0, number, b, 13, 6);
            }
            same("o of 26", b, -1, 0, 20, 0, 20, 0, 26, b, 6);
            same("o of 27", b, -1, 0, 20, 0, 20, 0, 27, b, 6);
            same("o of 28", b, -1, 0, 20, 0, 21, 0, 28, b, 6);
        }
    }

    /** On dead ground there is a KIND of every sort, but no frame, FUNCTION or VARIABLE more. */
    private static void onDeadGround() {
        int[] first = {2, 3, 4, 7, 8, 11, 12, 15, 16, 17, 18, 19};
        for (int number : first) {
            same("dead, 255 of " + number, number, 1, 1, 0, number, 255, 6);
            same("dead, no byte of " + number, number, 2, 1, 0, number);
        }
        same("dead, n of 9", 4, 1, 0, 0, 9, 4, 0, 0, 0, 0, 0, 6);
        same("dead, a d of 9", 1, 1, 0, 0, 9, 1, 0, 1, 6);
        same("dead, 5", 5, 1, 0, 0, 5, 6);
        same("dead, no such number", 29, 1, 0, 0, 29);
        Trial.same("dead, jumps of two RESULTS", Trial.fault(0, 1, 0, 2, 2, 0, 9, 1, 0, 1, 6, 13, 0, 6),
                3);
        Trial.same("dead, an if without its else", Trial.fault(0, 0, 0, 0, 4, 1, 0, 6, 10, 6), 4);
    }
}
