import java.util.ArrayList;
import java.util.List;
import java.util.NoSuchElementException;

/**
 * Many calls with all kinds of numbers: only what the document tells may be thrown, and a call that
 * throws changes nothing, but for a trap.
 */
public final class AnyCallsTest {
    private static long seed = 20240131;

    public static void main(String[] args) {
        for (int i = 0; i < 400; i++) {
            anyCalls();
        }
        for (int i = 0; i < 3000; i++) {
            anyProgram();
        }
        Trial.finish();
    }

    /** The next of a fixed row of numbers, so that every run of the test is the same. */
    private static int below(int bound) {
        seed = seed * 6364136223846793005L + 1442695040888963407L;
        return (int) ((seed >>> 33) % bound);
    }

    private static int around(int least, int most) {
        switch (below(20)) {
            case 0: return Integer.MIN_VALUE;
            case 1: return Integer.MAX_VALUE;
            case 2: return least - 1;
            case 3: return most + 1;
            default: return least + below(most - least + 1);
        }
    }

    private static String state(StackForge x) {
        StringBuilder all = new StringBuilder();
        for (int what = 0; what <= 11; what++) {
            all.append(x.count(what)).append(' ');
        }
        for (int at = 0; at < 64; at++) {
            all.append(x.memory(at)).append(' ');
        }
        all.append(x.global(0)).append(' ').append(x.global(1)).append(' ').append(x.realGlobal());
        for (int f = 0; f < 6; f++) {
            all.append(' ').append(x.fault(f));
        }
        return all.toString();
    }

    private static void anyCalls() {
        StackForge x = new StackForge();
        for (int i = 0; i < 300; i++) {
            String before = state(x);
            String call = "";
            try {
                call = oneCall(x, below(16));
            } catch (IllegalArgumentException | IllegalStateException e) {
                if (!before.equals(state(x))) {
                    Trial.same("a call that throws changed something: " + call, 1, 0);
                }
            } catch (IndexOutOfBoundsException | UnsupportedOperationException
                    | NoSuchElementException | ArithmeticException e) {
                if (x.count(0) != StackForge.TRAPPED && !before.equals(state(x))) {
                    Trial.same("a call that throws changed something: " + call, 1, 0);
                }
            } catch (RuntimeException e) {
                if (e.getClass() != RuntimeException.class || x.count(3) != 1) {
                    Trial.same("thrown by itself: " + e, 1, 0);
                }
            }
        }
    }

    private static String oneCall(StackForge x, int which) {
        switch (which) {
            case 0:
                x.shape(around(0, 5), around(0, 33), around(0, 3), around(0, 33));
                break;
            case 1: case 2: case 3:
                x.code(around(0, 5), anyBytes(), around(1, 8));
                break;
            case 4:
                x.table(around(0, 7), around(-1, 5));
                break;
            case 5: case 6:
                x.check();
                break;
            case 7:
                x.fault(around(0, 5));
                break;
            case 8:
                x.argue(around(-9, 9));
                break;
            case 9: case 10:
                x.start(around(0, 5));
                break;
            case 11:
                x.run(around(1, 20));
                break;
            case 12:
                x.stop();
                break;
            case 13:
                x.result();
                x.real();
                break;
            case 14:
                x.global(around(0, 1));
                x.memory(around(0, 63));
                break;
            default:
                if (below(2) == 0) {
                    x.count(around(0, 11));
                } else {
                    x.wipe();
                }
                break;
        }
        return "call " + which;
    }

    private static long anyBytes() {
        long bytes = 0;
        for (int i = 0; i < 8; i++) {
            bytes = bytes << 8 | (below(3) == 0 ? 6 : below(90));
        }
        return bytes;
    }

    /** Grows code an instruction at a time, as long as it is not BAD, ends it, and runs it. */
    private static void anyProgram() {
        int[] rows = {0, 1, 2, 3, 12, 31, 123};
        int parameters = rows[below(rows.length)];
        int result = below(4);
        int locals = rows[below(rows.length)];
        List<Integer> code = new ArrayList<>();
        for (int i = 0; i < 250 && code.size() < 56; i++) {
            List<Integer> longer = new ArrayList<>(code);
            addInstruction(longer);
            StackForge x = withCode(parameters, result, locals, longer);
            int fault = x.fault(0);
            if (fault == -1) {
                runAll(x, parameters);
                return;
            }
            if (fault == longer.size() && longer.size() <= 56) {
                code = longer;
            }
        }
    }

    private static void addInstruction(List<Integer> code) {
        int number = below(4) == 0 ? below(11) : below(86);
        code.add(number);
        boolean one = (number >= 2 && number <= 4) || number == 7 || number == 8
                || number == 11 || number == 12 || (number >= 15 && number <= 28);
        if (number == 9) {
            int n = below(4);
            code.add(n);
            for (int i = 0; i <= n; i++) {
                code.add(below(3));
            }
        } else if (one) {
            code.add(number >= 20 && number <= 28 ? below(256) : below(4));
        }
    }

    private static StackForge withCode(int parameters, int result, int locals, List<Integer> code) {
        int[] bytes = new int[Math.min(60, code.size())];
        for (int i = 0; i < bytes.length; i++) {
            bytes[i] = code.get(i);
        }
        StackForge x = new StackForge();
        Trial.define(x, 1, 1, 1, 0, 15, 0, 20, 1, 30, 6);
        Trial.define(x, 2, 0, 0, 3, 6);
        x.table(0, 1);
        x.table(1, 2);
        x.table(2, 0);
        Trial.define(x, 0, parameters, result, locals, bytes);
        return x;
    }

    private static void runAll(StackForge x, int parameters) {
        x.check();
        for (int rest = parameters; rest > 0; rest /= 10) {
            x.argue(around(-4, 4));
        }
        x.start(0);
        int steps = 0;
        try {
            for (int i = 0; i < 30 && x.count(0) == StackForge.RUNNING; i++) {
                int n = 1 + below(20);
                int done = x.run(n);
                steps += done;
                Trial.same("no more than asked for", done <= n ? 1 : 0, 1);
                Trial.same("steps", x.count(1), steps);
                Trial.same("as long as it runs", x.count(0) == 1 ? n : done, done);
            }
        } catch (RuntimeException e) {
            Trial.same("trapped: " + e, x.count(0), StackForge.TRAPPED);
        }
    }
}
