/** What the tests share: comparing answers, catching throws, and making machines with code. */
final class Trial {
    /** Bytes that put an int, a long or a double (of 0, 0 and 0.0) on the stack, by kind. */
    static final int[][] PUSH = {{}, {20, 0}, {21, 0}, {22, 0}};
    /** Bytes that put a long, of VARIABLE 0, its upper half, and VARIABLE 1, its lower half. */
    static final int[] MAKE_LONG = {15, 0, 81, 21, 32, 58, 15, 1, 85, 56};

    private static int wrong = 0;

    private Trial() {
    }

    static void same(String what, long got, long due) {
        if (got != due) {
            tell(what + " answered " + got + ", due is " + due);
        }
    }

    static void sameReal(String what, double got, double due) {
        if (got != due) {
            tell(what + " answered " + got + ", due is " + due);
        }
    }

    static void thrown(String what, Class<?> due, Runnable call) {
        String got = "nothing";
        try {
            call.run();
        } catch (RuntimeException e) {
            got = e.getClass().getName();
        }
        if (!got.equals(due.getName())) {
            tell(what + " threw " + got + ", due is " + due.getName());
        }
    }

    static void illegalArgument(String what, Runnable call) {
        thrown(what, IllegalArgumentException.class, call);
    }

    static void illegalState(String what, Runnable call) {
        thrown(what, IllegalStateException.class, call);
    }

    static void outOfBounds(String what, Runnable call) {
        thrown(what, IndexOutOfBoundsException.class, call);
    }

    static void unsupported(String what, Runnable call) {
        thrown(what, UnsupportedOperationException.class, call);
    }

    static void noSuchElement(String what, Runnable call) {
        thrown(what, java.util.NoSuchElementException.class, call);
    }

    private static void tell(String line) {
        wrong++;
        System.out.println(line);
    }

    static void finish() {
        if (wrong != 0) {
            System.out.println(wrong + " answers are wrong");
            System.exit(1);
        }
        System.out.println("all answers are as due");
    }

    /** Puts bytes behind the code of a function, up to eight at a time. */
    static void write(StackForge x, int function, int... bytes) {
        for (int from = 0; from < bytes.length; from += 8) {
            int count = Math.min(8, bytes.length - from);
            long packed = 0;
            for (int i = 0; i < count; i++) {
                packed = packed << 8 | bytes[from + i];
            }
            x.code(function, packed, count);
        }
    }

    static void define(StackForge x, int function, int parameters, int result, int locals,
            int... bytes) {
        x.shape(function, parameters, result, locals);
        write(x, function, bytes);
    }

    /** A new object whose function 0 is as told. */
    static StackForge forge(int parameters, int result, int locals, int... bytes) {
        StackForge x = new StackForge();
        define(x, 0, parameters, result, locals, bytes);
        return x;
    }

    static int fault(int parameters, int result, int locals, int... bytes) {
        return forge(parameters, result, locals, bytes).fault(0);
    }

    static void begin(StackForge x, int function, int... arguments) {
        for (int argument : arguments) {
            x.argue(argument);
        }
        x.start(function);
    }

    /** Runs until it is not RUNNING any more, and answers the exception's class or null. */
    static Class<?> end(StackForge x) {
        try {
            for (int i = 0; i < 100 && x.count(0) == StackForge.RUNNING; i++) {
                x.run(20);
            }
        } catch (RuntimeException e) {
            return e.getClass();
        }
        return null;
    }

    static StackForge ended(StackForge x, int... arguments) {
        x.check();
        begin(x, 0, arguments);
        end(x);
        return x;
    }

    static void gives(String what, long due, StackForge x, int... arguments) {
        ended(x, arguments);
        same(what + ": phase", x.count(0), StackForge.DONE);
        same(what, x.count(0) == StackForge.DONE ? x.result() : 0, due);
    }

    static void givesReal(String what, double due, StackForge x, int... arguments) {
        ended(x, arguments);
        same(what + ": phase", x.count(0), StackForge.DONE);
        sameReal(what, x.count(0) == StackForge.DONE ? x.real() : 0, due);
    }

    static void traps(String what, int due, StackForge x, int... arguments) {
        Class<?>[] classes = {null, RuntimeException.class, ArithmeticException.class,
            IndexOutOfBoundsException.class, java.util.NoSuchElementException.class,
            UnsupportedOperationException.class};
        x.check();
        begin(x, 0, arguments);
        Class<?> got = end(x);
        if (got != classes[due]) {
            tell(what + " threw " + got + ", due is " + classes[due]);
        }
        same(what + ": phase", x.count(0), StackForge.TRAPPED);
        same(what + ": trap", x.count(3), due);
    }

    static int[] join(int[]... rows) {
        int length = 0;
        for (int[] row : rows) {
            length += row.length;
        }
        int[] all = new int[length];
        int at = 0;
        for (int[] row : rows) {
            System.arraycopy(row, 0, all, at, row.length);
            at += row.length;
        }
        return all;
    }

    static int[] row(int... bytes) {
        return bytes;
    }

    static int[] repeat(int times, int... bytes) {
        int[] all = new int[times * bytes.length];
        for (int i = 0; i < all.length; i++) {
            all[i] = bytes[i % bytes.length];
        }
        return all;
    }
}
