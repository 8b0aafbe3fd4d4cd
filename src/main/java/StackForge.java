import java.util.NoSuchElementException;

/** A machine for checked, structured code. The document's promises say what each call does. */
public final class StackForge {
    public static final int IDLE = 0;
    public static final int RUNNING = 1;
    public static final int DONE = 2;
    public static final int TRAPPED = 3;

    private static final int FUNCTIONS = 6;
    private static final int PLACES = 8;
    private static final int EMPTY = -1;
    private static final int MOST_ARGUMENTS = 3;
    private static final int MOST_STEPS = 20;
    private static final int MOST_CALLS = 6;
    private static final int MOST_FRAMES = 8;
    private static final int MOST_ON_STACK = 16;
    private static final int MOST_VARIABLES = 6;

    private static final int NO_KIND = 0;
    private static final int INT = 1;
    private static final int LONG = 2;
    private static final int REAL = 3;
    private static final int ANY = 4;

    private static final int NO_TRAP = 0;
    private static final int TRAP_TOLD = 1;
    private static final int TRAP_DIVISION = 2;
    private static final int TRAP_MEMORY = 3;
    private static final int TRAP_TABLE = 4;
    private static final int TRAP_RANGE = 5;

    private final Function[] functions;
    private final int[] places;
    private final int[] arguments;
    private final Checker checker;
    private final Machine machine;
    private int argumentCount;
    private boolean checked;
    private int phase;
    private int steps;
    private int latestTrap;

    public StackForge() {
        functions = new Function[FUNCTIONS];
        for (int f = 0; f < FUNCTIONS; f++) {
            functions[f] = new Function();
        }
        places = new int[PLACES];
        for (int place = 0; place < PLACES; place++) {
            places[place] = EMPTY;
        }
        arguments = new int[MOST_ARGUMENTS];
        checker = new Checker(functions);
        machine = new Machine(functions, places);
    }

    public int shape(int function, int parameters, int result, int locals)
            throws IllegalArgumentException, IllegalStateException {
        if (!isFunction(function) || !isKindRow(parameters) || result < NO_KIND || result > REAL
                || !isKindRow(locals)) {
            throw new IllegalArgumentException();
        }
        if (phase == RUNNING) {
            throw new IllegalStateException();
        }
        checked = false;
        functions[function].reshape(parameters, result, locals);
        return functions[function].variableCount();
    }

    public int code(int function, long bytes, int count)
            throws IllegalArgumentException, IllegalStateException, IndexOutOfBoundsException {
        if (!isFunction(function) || count < 1 || count > 8) {
            throw new IllegalArgumentException();
        }
        if (phase == RUNNING) {
            throw new IllegalStateException();
        }
        if (functions[function].length() + count > Function.MOST_BYTES) {
            throw new IndexOutOfBoundsException();
        }
        checked = false;
        for (int left = count - 1; left >= 0; left--) {
            functions[function].append((int) (bytes >>> (8 * left)) & 255);
        }
        return functions[function].length();
    }

    public int table(int place, int function) throws IllegalArgumentException {
        if (place < 0 || place >= PLACES || (function != EMPTY && !isFunction(function))) {
            throw new IllegalArgumentException();
        }
        int before = places[place];
        places[place] = function;
        return before;
    }

    public int check() throws IllegalStateException, UnsupportedOperationException {
        if (phase == RUNNING) {
            throw new IllegalStateException();
        }
        int withCode = 0;
        for (int f = 0; f < FUNCTIONS; f++) {
            if (functions[f].length() > 0) {
                withCode++;
                if (checker.faultIn(functions[f]) != Checker.NO_FAULT) {
                    throw new UnsupportedOperationException();
                }
            }
        }
        checked = true;
        return withCode;
    }

    public int fault(int function) throws IllegalArgumentException {
        if (!isFunction(function)) {
            throw new IllegalArgumentException();
        }
        return checker.faultIn(functions[function]);
    }

    public int argue(int x) throws IndexOutOfBoundsException {
        if (argumentCount >= MOST_ARGUMENTS) {
            throw new IndexOutOfBoundsException();
        }
        arguments[argumentCount] = x;
        argumentCount++;
        return argumentCount;
    }

    public int start(int function)
            throws IllegalArgumentException, IllegalStateException, UnsupportedOperationException {
        if (!isFunction(function)) {
            throw new IllegalArgumentException();
        }
        if (phase == RUNNING || !checked || functions[function].length() == 0) {
            throw new IllegalStateException();
        }
        if (functions[function].parameterCount() != argumentCount) {
            throw new UnsupportedOperationException();
        }
        machine.begin(functions[function], arguments);
        phase = RUNNING;
        steps = 0;
        int taken = argumentCount;
        argumentCount = 0;
        return taken;
    }

    public int run(int n)
            throws IllegalArgumentException, IllegalStateException, ArithmeticException,
            IndexOutOfBoundsException, NoSuchElementException, UnsupportedOperationException,
            RuntimeException {
        if (n < 1 || n > MOST_STEPS) {
            throw new IllegalArgumentException();
        }
        if (phase != RUNNING) {
            throw new IllegalStateException();
        }
        int done = 0;
        int trap = NO_TRAP;
        for (int i = 0; i < n && phase == RUNNING; i++) {
            trap = machine.step();
            done++;
            phase = phaseAfter(trap);
        }
        steps += done;
        if (trap != NO_TRAP) {
            latestTrap = trap;
            throwTrap(trap);
        }
        return done;
    }

    public int stop() throws IllegalStateException {
        if (phase != RUNNING) {
            throw new IllegalStateException();
        }
        phase = IDLE;
        return steps;
    }

    public long result() throws IllegalStateException, NoSuchElementException {
        if (phase != DONE) {
            throw new IllegalStateException();
        }
        if (machine.outcomeKind() != INT && machine.outcomeKind() != LONG) {
            throw new NoSuchElementException();
        }
        return machine.outcomeNumber();
    }

    public double real() throws IllegalStateException, NoSuchElementException {
        if (phase != DONE) {
            throw new IllegalStateException();
        }
        if (machine.outcomeKind() != REAL) {
            throw new NoSuchElementException();
        }
        return machine.outcomeReal();
    }

    public long global(int which) throws IllegalArgumentException {
        if (which < 0 || which > 1) {
            throw new IllegalArgumentException();
        }
        return machine.globals.numberAt(which);
    }

    public double realGlobal() {
        return machine.globals.realAt(2);
    }

    public int memory(int at) throws IllegalArgumentException {
        if (at < 0 || at >= Memory.SIZE) {
            throw new IllegalArgumentException();
        }
        return machine.bytes.byteAt(at);
    }

    public int wipe() throws IllegalStateException {
        if (phase == RUNNING) {
            throw new IllegalStateException();
        }
        machine.globals.clear();
        return machine.bytes.clear();
    }

    public int count(int what) throws IllegalArgumentException {
        if (what < 0 || what > 5 + FUNCTIONS) {
            throw new IllegalArgumentException();
        }
        switch (what) {
            case 0:
                return phase;
            case 1:
                return steps;
            case 2:
                return phase == RUNNING ? machine.depth() : 0;
            case 3:
                return latestTrap;
            case 4:
                return checked ? 1 : 0;
            case 5:
                return argumentCount;
            default:
                return functions[what - 6].length();
        }
    }

    private static boolean isFunction(int function) {
        return function >= 0 && function < FUNCTIONS;
    }

    private static boolean isKindRow(int digits) {
        if (digits < 0 || digits > 333) {
            return false;
        }
        int rest = digits;
        for (int i = 0; i < 3 && rest > 0; i++) {
            if (rest % 10 < INT || rest % 10 > REAL) {
                return false;
            }
            rest /= 10;
        }
        return true;
    }

    private int phaseAfter(int trap) {
        if (trap != NO_TRAP) {
            return TRAPPED;
        }
        return machine.depth() == 0 ? DONE : RUNNING;
    }

    private static void throwTrap(int trap) {
        switch (trap) {
            case TRAP_DIVISION:
                throw new ArithmeticException();
            case TRAP_MEMORY:
                throw new IndexOutOfBoundsException();
            case TRAP_TABLE:
                throw new NoSuchElementException();
            case TRAP_RANGE:
                throw new UnsupportedOperationException();
            default:
                throw new RuntimeException();
        }
    }

    /** The numbers of the instructions, and what can be told of each by its number alone. */
    private static final class Instruction {
        static final int TRAP = 0;
        static final int NOTHING = 1;
        static final int BLOCK = 2;
        static final int LOOP = 3;
        static final int IF = 4;
        static final int ELSE = 5;
        static final int END = 6;
        static final int JUMP = 7;
        static final int JUMP_IF = 8;
        static final int JUMP_ONE_OF = 9;
        static final int LEAVE = 10;
        static final int CALL = 11;
        static final int CALL_PLACE = 12;
        static final int DROP = 13;
        static final int SELECT = 14;
        static final int GET = 15;
        static final int SET = 16;
        static final int SET_KEEPING = 17;
        static final int GET_GLOBAL = 18;
        static final int SET_GLOBAL = 19;
        static final int PUT_INT = 20;
        static final int PUT_LONG = 21;
        static final int PUT_REAL = 22;
        static final int LOAD_INT = 23;
        static final int LOAD_BYTE = 24;
        static final int LOAD_LONG = 25;
        static final int STORE_INT = 26;
        static final int STORE_BYTE = 27;
        static final int STORE_LONG = 28;
        static final int FIRST_INT = 30;
        static final int INT_IS_ZERO = 45;
        static final int FIRST_LONG = 50;
        static final int LONG_IS_ZERO = 64;
        static final int FIRST_REAL = 70;
        static final int NEGATE = 76;

        static final int NONE_SUCH = -1;

        /**
         * What an instruction takes and puts if its number alone tells it: three digits, the kind
         * that is taken first, the one that is taken next, the one that is put.
         */
        static int signature(int number) {
            if (number >= FIRST_INT && number < INT_IS_ZERO) {
                return 111;
            }
            if (number >= FIRST_LONG && number < LONG_IS_ZERO) {
                return number <= 60 ? 222 : 221;
            }
            if (number >= FIRST_REAL && number < NEGATE) {
                return number <= 73 ? 333 : 331;
            }
            switch (number) {
                case NOTHING:
                    return 0;
                case PUT_INT:
                    return 1;
                case PUT_LONG:
                    return 2;
                case PUT_REAL:
                    return 3;
                case LOAD_INT: case LOAD_BYTE: case INT_IS_ZERO:
                    return 101;
                case STORE_INT: case STORE_BYTE:
                    return 110;
                case STORE_LONG:
                    return 210;
                case LOAD_LONG: case 81: case 85:
                    return 102;
                case LONG_IS_ZERO: case 80:
                    return 201;
                case NEGATE:
                    return 303;
                case 82:
                    return 103;
                case 83:
                    return 301;
                case 84:
                    return 203;
                default:
                    return NONE_SUCH;
            }
        }

        static boolean isKnown(int number) {
            return (number >= TRAP && number <= SET_GLOBAL) || signature(number) != NONE_SUCH;
        }

        static boolean hasOperand(int number) {
            return (number >= BLOCK && number <= IF)
                    || (number >= JUMP && number <= JUMP_ONE_OF)
                    || number == CALL || number == CALL_PLACE
                    || (number >= GET && number <= STORE_LONG);
        }
    }

    /** The kinds and the code of a function. */
    private static final class Function {
        static final int MOST_BYTES = 60;

        private final int[] kinds = new int[MOST_VARIABLES];
        private final int[] bytes = new int[MOST_BYTES];
        /** By the place of an IF: the place behind its ELSE, 0 if it has none. */
        private final int[] behindElse = new int[MOST_BYTES];
        /** By the place of what begins a frame: the place behind its END. */
        private final int[] behindEnd = new int[MOST_BYTES];
        private int parameterCount;
        private int variableCount;
        private int outcome;
        private int length;

        void reshape(int parameters, int newOutcome, int locals) {
            variableCount = 0;
            addVariables(parameters);
            parameterCount = variableCount;
            addVariables(locals);
            outcome = newOutcome;
            length = 0;
        }

        private void addVariables(int digits) {
            addVariable(digits / 100);
            addVariable(digits / 10 % 10);
            addVariable(digits % 10);
        }

        private void addVariable(int kind) {
            if (kind != NO_KIND && variableCount < MOST_VARIABLES) {
                kinds[variableCount] = kind;
                variableCount++;
            }
        }

        int parameterCount() {
            return parameterCount;
        }

        int variableCount() {
            return variableCount;
        }

        int outcome() {
            return outcome;
        }

        int length() {
            return length;
        }

        /** The kind of a variable, or NO_KIND where there is no such variable. */
        int kindOf(int variable) {
            return variable >= 0 && variable < variableCount ? kinds[variable] : NO_KIND;
        }

        boolean isCalledLike(Function other) {
            if (parameterCount != other.parameterCount || outcome != other.outcome) {
                return false;
            }
            for (int i = 0; i < parameterCount; i++) {
                if (kindOf(i) != other.kindOf(i)) {
                    return false;
                }
            }
            return true;
        }

        void append(int one) {
            if (length < MOST_BYTES) {
                bytes[length] = one;
                length++;
            }
        }

        int byteAt(int place) {
            return place >= 0 && place < length ? bytes[place] : 0;
        }

        /** How many bytes an instruction has, 0 if there is none of that number (or row of jumps). */
        int sizeAt(int place) {
            int number = byteAt(place);
            if (!Instruction.isKnown(number)) {
                return 0;
            }
            if (number == Instruction.JUMP_ONE_OF) {
                int choices = byteAt(place + 1);
                return choices > 3 ? 0 : choices + 3;
            }
            return Instruction.hasOperand(number) ? 2 : 1;
        }

        void noteElse(int begin, int behind) {
            if (begin >= 0 && begin < MOST_BYTES) {
                behindElse[begin] = behind;
            }
        }

        void noteEnd(int begin, int behind) {
            if (begin >= 0 && begin < MOST_BYTES) {
                behindEnd[begin] = behind;
            }
        }

        int behindElse(int begin) {
            return begin >= 0 && begin < MOST_BYTES ? behindElse[begin] : 0;
        }

        int behindEnd(int begin) {
            return begin >= 0 && begin < MOST_BYTES ? behindEnd[begin] : 0;
        }
    }

    /** A frame while code is gone over: where it begins and what is known of its stack. */
    private static final class Frame {
        /** The begin of the outermost frame, which no instruction begins. */
        static final int OUTERMOST = -1;

        private int begin;
        private int opener;
        private int base;
        private int outcome;
        private boolean dead;
        private boolean hasElse;

        void open(int newBegin, int newOpener, int newBase, int newOutcome) {
            begin = newBegin;
            opener = newOpener;
            base = newBase;
            outcome = newOutcome;
            dead = false;
            hasElse = false;
        }

        /** What a jump to this frame takes. */
        int kindOfJump() {
            return opener == Instruction.LOOP ? NO_KIND : outcome;
        }

        boolean lacksElse() {
            return opener == Instruction.IF && !hasElse;
        }
    }

    /** Goes over the code of a function with kinds instead of values. */
    private static final class Checker {
        static final int NO_FAULT = -1;

        private final Function[] functions;
        private final int[] stack = new int[MOST_ON_STACK];
        private final Frame[] rows = new Frame[MOST_FRAMES];
        private Function function;
        private Frame inner;
        private int height;
        private int frames;
        private boolean bad;

        Checker(Function[] functions) {
            this.functions = functions;
            for (int i = 0; i < MOST_FRAMES; i++) {
                rows[i] = new Frame();
            }
            function = functions[0];
            inner = rows[0];
        }

        /** The place of the first fault, the length if the code ends too soon, or NO_FAULT. */
        int faultIn(Function gone) {
            function = gone;
            height = 0;
            frames = 0;
            bad = false;
            beginFrame(Frame.OUTERMOST, Instruction.BLOCK, function.outcome());
            int place = 0;
            for (int i = 0; i < Function.MOST_BYTES && place < function.length(); i++) {
                int size = function.sizeAt(place);
                if (frames == 0 || size == 0) {
                    return place;
                }
                if (place + size > function.length()) {
                    return function.length();
                }
                goOver(place);
                if (bad) {
                    return place;
                }
                place += size;
            }
            return frames == 0 ? NO_FAULT : function.length();
        }

        private void goOver(int place) {
            int number = function.byteAt(place);
            int operand = function.byteAt(place + 1);
            if (number <= Instruction.END) {
                goOverFrames(place, number, operand);
            } else if (number <= Instruction.LEAVE) {
                goOverJumps(place, number, operand);
            } else if (number <= Instruction.SET_GLOBAL) {
                goOverValues(number, operand);
            } else {
                goOverSignature(Instruction.signature(number));
            }
        }

        private void goOverFrames(int place, int number, int operand) {
            switch (number) {
                case Instruction.TRAP:
                    die();
                    break;
                case Instruction.BLOCK: case Instruction.LOOP:
                    beginFrame(place, number, operand);
                    break;
                case Instruction.IF:
                    take(INT);
                    beginFrame(place, number, operand);
                    break;
                case Instruction.ELSE:
                    turnToElse(place);
                    break;
                case Instruction.END:
                    endFrame(place);
                    break;
                default:
                    break;
            }
        }

        private void beginFrame(int place, int opener, int outcome) {
            if (frames < 0 || frames >= MOST_FRAMES || outcome > REAL) {
                bad = true;
                return;
            }
            inner = rows[frames];
            inner.open(place, opener, height, outcome);
            frames++;
            function.noteElse(place, 0);
        }

        private void turnToElse(int place) {
            if (!inner.lacksElse()) {
                bad = true;
                return;
            }
            takeAllOfFrame();
            inner.dead = false;
            inner.hasElse = true;
            function.noteElse(inner.begin, place + 1);
        }

        private void endFrame(int place) {
            if (inner.outcome != NO_KIND && inner.lacksElse()) {
                bad = true;
                return;
            }
            takeAllOfFrame();
            put(inner.outcome);
            function.noteEnd(inner.begin, place + 1);
            frames--;
            if (frames > 0 && frames <= MOST_FRAMES) {
                inner = rows[frames - 1];
            }
        }

        private void takeAllOfFrame() {
            take(inner.outcome);
            if (height != inner.base) {
                bad = true;
            }
        }

        private void goOverJumps(int place, int number, int operand) {
            switch (number) {
                case Instruction.JUMP:
                    take(kindOfJump(operand));
                    die();
                    break;
                case Instruction.JUMP_IF:
                    take(INT);
                    take(kindOfJump(operand));
                    put(kindOfJump(operand));
                    break;
                case Instruction.JUMP_ONE_OF:
                    take(INT);
                    take(kindOfJumps(place + 2, operand + 1));
                    die();
                    break;
                default:
                    take(function.outcome());
                    die();
                    break;
            }
        }

        private int kindOfJumps(int place, int jumps) {
            int kind = kindOfJump(function.byteAt(place));
            for (int i = 1; i < jumps; i++) {
                if (kindOfJump(function.byteAt(place + i)) != kind) {
                    bad = true;
                }
            }
            return kind;
        }

        private int kindOfJump(int outwards) {
            int frame = frames - 1 - outwards;
            if (frame < 0 || frame >= MOST_FRAMES) {
                bad = true;
                return NO_KIND;
            }
            return rows[frame].kindOfJump();
        }

        private void goOverValues(int number, int operand) {
            switch (number) {
                case Instruction.CALL:
                    goOverCall(operand, true);
                    break;
                case Instruction.CALL_PLACE:
                    take(INT);
                    goOverCall(operand, false);
                    break;
                case Instruction.DROP:
                    take(ANY);
                    break;
                case Instruction.SELECT:
                    goOverSelect();
                    break;
                case Instruction.GET_GLOBAL: case Instruction.SET_GLOBAL:
                    goOverGlobal(number, operand);
                    break;
                default:
                    goOverVariable(number, function.kindOf(operand));
                    break;
            }
        }

        private void goOverCall(int called, boolean needsCode) {
            if (!isFunction(called) || (needsCode && functions[called].length() == 0)) {
                bad = true;
                return;
            }
            for (int i = functions[called].parameterCount() - 1; i >= 0; i--) {
                take(functions[called].kindOf(i));
            }
            put(functions[called].outcome());
        }

        private void goOverSelect() {
            take(INT);
            int second = take(ANY);
            int first = take(second);
            put(second == ANY ? first : second);
        }

        private void goOverGlobal(int number, int which) {
            // The globals 0, 1, 2 have the kinds 1, 2, 3.
            int kind = which + 1;
            if (kind > REAL) {
                bad = true;
            } else if (number == Instruction.GET_GLOBAL) {
                put(kind);
            } else {
                take(kind);
            }
        }

        private void goOverVariable(int number, int kind) {
            if (kind == NO_KIND) {
                bad = true;
                return;
            }
            if (number != Instruction.GET) {
                take(kind);
            }
            if (number != Instruction.SET) {
                put(kind);
            }
        }

        private void goOverSignature(int signature) {
            take(signature / 100);
            take(signature / 10 % 10);
            put(signature % 10);
        }

        /** Takes a kind, ANY for whatever is there, NO_KIND for nothing; answers what there was. */
        private int take(int wanted) {
            if (wanted == NO_KIND) {
                return NO_KIND;
            }
            if (height <= inner.base || height > MOST_ON_STACK) {
                bad = bad || !inner.dead;
                return ANY;
            }
            height--;
            int taken = stack[height];
            if (taken != wanted && taken != ANY && wanted != ANY) {
                bad = true;
            }
            return taken;
        }

        private void put(int kind) {
            if (kind == NO_KIND) {
                return;
            }
            if (height < 0 || height >= MOST_ON_STACK) {
                bad = true;
                return;
            }
            stack[height] = kind;
            height++;
        }

        private void die() {
            height = inner.base;
            inner.dead = true;
        }
    }

    /** A row of values, each with room for a whole number and for a double. */
    private static final class Cells {
        private final long[] numbers;
        private final double[] reals;
        private int height;

        Cells(int room) {
            numbers = new long[room];
            reals = new double[room];
        }

        void clear() {
            for (int i = 0; i < numbers.length; i++) {
                set(i, 0, 0.0);
            }
            height = 0;
        }

        int height() {
            return height;
        }

        long numberAt(int at) {
            return at >= 0 && at < numbers.length ? numbers[at] : 0;
        }

        double realAt(int at) {
            return at >= 0 && at < reals.length ? reals[at] : 0.0;
        }

        void set(int at, long number, double real) {
            if (at >= 0 && at < numbers.length && at < reals.length) {
                numbers[at] = number;
                reals[at] = real;
            }
        }

        void setFrom(int at, Cells from, int fromAt) {
            set(at, from.numberAt(fromAt), from.realAt(fromAt));
        }

        private void put(long number, double real) {
            if (height >= 0 && height < numbers.length && height < reals.length) {
                numbers[height] = number;
                reals[height] = real;
                height++;
            }
        }

        void putNumber(long number) {
            put(number, 0.0);
        }

        void putReal(double real) {
            put(0, real);
        }

        void putTruth(boolean truth) {
            put(truth ? 1 : 0, 0.0);
        }

        void putFrom(Cells from, int fromAt) {
            put(from.numberAt(fromAt), from.realAt(fromAt));
        }

        long takeNumber() {
            drop();
            return numberAt(height);
        }

        int takeInt() {
            return (int) takeNumber();
        }

        double takeReal() {
            drop();
            return realAt(height);
        }

        void drop() {
            if (height > 0) {
                height--;
            }
        }

        void cutTo(int lower) {
            if (lower >= 0 && lower < height) {
                height = lower;
            }
        }
    }

    /** The bytes that code can load and store. */
    private static final class Memory {
        static final int SIZE = 64;

        private final int[] bytes = new int[SIZE];

        int byteAt(int at) {
            return at >= 0 && at < SIZE ? bytes[at] : 0;
        }

        /** Makes all bytes 0 and answers how many were not. */
        int clear() {
            int changed = 0;
            for (int i = 0; i < SIZE; i++) {
                if (bytes[i] != 0) {
                    changed++;
                    bytes[i] = 0;
                }
            }
            return changed;
        }

        /** Whether there are that many bytes; the place is a long because no sum may wrap. */
        boolean holds(long from, int size) {
            return from >= 0 && from + size <= SIZE;
        }

        long load(int from, int size) {
            long number = 0;
            for (int i = size - 1; i >= 0; i--) {
                number = number << 8 | byteAt(from + i);
            }
            return number;
        }

        void store(int from, int size, long number) {
            for (int i = 0; i < size; i++) {
                if (from + i >= 0 && from + i < SIZE) {
                    bytes[from + i] = (int) (number >>> (8 * i)) & 255;
                }
            }
        }
    }

    /** One call of a function while it runs. */
    private static final class Call {
        private final Cells stack = new Cells(MOST_ON_STACK);
        private final Cells variables = new Cells(MOST_VARIABLES);
        private final int[] begins = new int[MOST_FRAMES];
        private final int[] bases = new int[MOST_FRAMES];
        private Function function;
        private int place;
        private int frames;

        Call(Function first) {
            function = first;
        }

        void begin(Function called) {
            function = called;
            place = 0;
            frames = 1;
            stack.clear();
            variables.clear();
        }

        void setParameter(int parameter, int x) {
            if (function.kindOf(parameter) == REAL) {
                variables.set(parameter, 0, x * 0.125);
            } else {
                variables.set(parameter, x, 0.0);
            }
        }

        void takeParametersFrom(Cells callersStack) {
            int first = callersStack.height() - function.parameterCount();
            for (int i = 0; i < function.parameterCount(); i++) {
                variables.setFrom(i, callersStack, first + i);
            }
            callersStack.cutTo(first);
        }

        void beginFrame(int begin) {
            if (frames >= 0 && frames < MOST_FRAMES) {
                begins[frames] = begin;
                bases[frames] = stack.height();
                frames++;
            }
        }

        void beginIf(int begin) {
            if (stack.takeInt() != 0) {
                beginFrame(begin);
            } else if (function.behindElse(begin) != 0) {
                beginFrame(begin);
                place = function.behindElse(begin);
            } else {
                place = function.behindEnd(begin);
            }
        }

        void endFrame() {
            frames--;
        }

        void goBehindEnd() {
            frames--;
            if (frames >= 0 && frames < MOST_FRAMES) {
                place = function.behindEnd(begins[frames]);
            }
        }

        /** Jumps to a frame, or answers false and does nothing if it is the outermost. */
        boolean jumpsWithin(int outwards) {
            int frame = frames - 1 - outwards;
            if (frame <= 0 || frame >= MOST_FRAMES) {
                return false;
            }
            int begin = begins[frame];
            if (function.byteAt(begin) == Instruction.LOOP) {
                stack.cutTo(bases[frame]);
                place = begin + 2;
                frames = frame + 1;
                return true;
            }
            int top = stack.height() - 1;
            stack.cutTo(bases[frame]);
            if (function.byteAt(begin + 1) != NO_KIND) {
                stack.putFrom(stack, top);
            }
            place = function.behindEnd(begin);
            frames = frame;
            return true;
        }
    }

    /** Runs checked code; what a step does is answered as its trap. */
    private static final class Machine {
        private static final long LOW_HALF = 0xFFFFFFFFL;

        private final Function[] functions;
        private final int[] places;
        private final Call[] calls = new Call[MOST_CALLS];
        private final Memory bytes = new Memory();
        private final Cells globals = new Cells(3);
        private final Cells outcome = new Cells(1);
        private int outcomeKind;
        private int depth;

        Machine(Function[] functions, int[] places) {
            this.functions = functions;
            this.places = places;
            for (int i = 0; i < MOST_CALLS; i++) {
                calls[i] = new Call(functions[0]);
            }
        }

        int depth() {
            return depth;
        }

        int outcomeKind() {
            return outcomeKind;
        }

        long outcomeNumber() {
            return outcome.numberAt(0);
        }

        double outcomeReal() {
            return outcome.realAt(0);
        }

        void begin(Function function, int[] arguments) {
            depth = 1;
            calls[0].begin(function);
            for (int i = 0; i < function.parameterCount() && i < arguments.length; i++) {
                calls[0].setParameter(i, arguments[i]);
            }
        }

        int step() {
            if (depth < 1 || depth > MOST_CALLS) {
                return NO_TRAP;
            }
            Call call = calls[depth - 1];
            int at = call.place;
            int number = call.function.byteAt(at);
            int operand = call.function.byteAt(at + 1);
            call.place = at + call.function.sizeAt(at);
            if (number <= Instruction.END) {
                return stepFrames(call, at, number);
            }
            if (number <= Instruction.LEAVE) {
                return stepJumps(call, at, number, operand);
            }
            if (number <= Instruction.CALL_PLACE) {
                return stepCalls(call, number, operand);
            }
            if (number <= Instruction.PUT_REAL) {
                return stepValues(call, number, operand);
            }
            return stepNumbers(call.stack, number, operand);
        }

        private int stepFrames(Call call, int at, int number) {
            switch (number) {
                case Instruction.TRAP:
                    return TRAP_TOLD;
                case Instruction.BLOCK: case Instruction.LOOP:
                    call.beginFrame(at);
                    break;
                case Instruction.IF:
                    call.beginIf(at);
                    break;
                case Instruction.ELSE:
                    call.goBehindEnd();
                    break;
                case Instruction.END:
                    call.endFrame();
                    if (call.frames <= 0) {
                        leave(call);
                    }
                    break;
                default:
                    break;
            }
            return NO_TRAP;
        }

        private int stepJumps(Call call, int at, int number, int operand) {
            switch (number) {
                case Instruction.JUMP:
                    jump(call, operand);
                    break;
                case Instruction.JUMP_IF:
                    if (call.stack.takeInt() != 0) {
                        jump(call, operand);
                    }
                    break;
                case Instruction.JUMP_ONE_OF:
                    jump(call, chosenJump(call, at, operand));
                    break;
                default:
                    leave(call);
                    break;
            }
            return NO_TRAP;
        }

        private void jump(Call call, int outwards) {
            if (!call.jumpsWithin(outwards)) {
                leave(call);
            }
        }

        private int chosenJump(Call call, int at, int last) {
            int choice = call.stack.takeInt();
            int chosen = choice >= 0 && choice < last ? choice : last;
            return call.function.byteAt(at + 2 + chosen);
        }

        private void leave(Call call) {
            int kind = call.function.outcome();
            int top = call.stack.height() - 1;
            depth--;
            if (depth < 1 || depth > MOST_CALLS) {
                depth = 0;
                outcomeKind = kind;
                outcome.setFrom(0, call.stack, top);
            } else if (kind != NO_KIND) {
                calls[depth - 1].stack.putFrom(call.stack, top);
            }
        }

        private int stepCalls(Call call, int number, int operand) {
            if (!isFunction(operand)) {
                return TRAP_TABLE;
            }
            if (number == Instruction.CALL) {
                return enter(call, functions[operand]);
            }
            int place = call.stack.takeInt();
            if (place < 0 || place >= PLACES || !isFunction(places[place])) {
                return TRAP_TABLE;
            }
            Function called = functions[places[place]];
            if (called.length() == 0 || !called.isCalledLike(functions[operand])) {
                return TRAP_TABLE;
            }
            return enter(call, called);
        }

        private int enter(Call caller, Function called) {
            if (depth < 0 || depth >= MOST_CALLS) {
                return TRAP_TOLD;
            }
            calls[depth].begin(called);
            calls[depth].takeParametersFrom(caller.stack);
            depth++;
            return NO_TRAP;
        }

        private int stepValues(Call call, int number, int operand) {
            Cells stack = call.stack;
            int top = stack.height() - 1;
            switch (number) {
                case Instruction.DROP:
                    stack.drop();
                    break;
                case Instruction.SELECT:
                    select(stack);
                    break;
                case Instruction.GET:
                    stack.putFrom(call.variables, operand);
                    break;
                case Instruction.SET:
                    call.variables.setFrom(operand, stack, top);
                    stack.drop();
                    break;
                case Instruction.SET_KEEPING:
                    call.variables.setFrom(operand, stack, top);
                    break;
                case Instruction.GET_GLOBAL:
                    stack.putFrom(globals, operand);
                    break;
                case Instruction.SET_GLOBAL:
                    globals.setFrom(operand, stack, top);
                    stack.drop();
                    break;
                case Instruction.PUT_REAL:
                    stack.putReal((byte) operand * 0.125);
                    break;
                default:
                    stack.putNumber((byte) operand);
                    break;
            }
            return NO_TRAP;
        }

        private void select(Cells stack) {
            boolean first = stack.takeInt() != 0;
            int second = stack.height() - 1;
            if (!first) {
                stack.setFrom(second - 1, stack, second);
            }
            stack.drop();
        }

        private int stepNumbers(Cells stack, int number, int operand) {
            if (number <= Instruction.STORE_LONG) {
                return stepMemory(stack, number, operand);
            }
            if (number <= Instruction.INT_IS_ZERO) {
                return stepInts(stack, number);
            }
            if (number <= Instruction.LONG_IS_ZERO) {
                return stepLongs(stack, number);
            }
            if (number <= Instruction.NEGATE) {
                return stepReals(stack, number);
            }
            return convert(stack, number);
        }

        private int stepMemory(Cells stack, int number, int operand) {
            boolean stores = number >= Instruction.STORE_INT;
            long stored = stores ? stack.takeNumber() : 0;
            long from = (long) stack.takeInt() + operand;
            int size = sizeInMemory(number);
            if (!bytes.holds(from, size)) {
                return TRAP_MEMORY;
            }
            if (stores) {
                bytes.store((int) from, size, stored);
            } else if (number == Instruction.LOAD_INT) {
                stack.putNumber((int) bytes.load((int) from, size));
            } else {
                stack.putNumber(bytes.load((int) from, size));
            }
            return NO_TRAP;
        }

        private static int sizeInMemory(int number) {
            switch (number) {
                case Instruction.LOAD_BYTE: case Instruction.STORE_BYTE:
                    return 1;
                case Instruction.LOAD_LONG: case Instruction.STORE_LONG:
                    return 8;
                default:
                    return 4;
            }
        }

        private static int stepInts(Cells stack, int number) {
            int y = stack.takeInt();
            if (number == Instruction.INT_IS_ZERO) {
                stack.putTruth(y == 0);
                return NO_TRAP;
            }
            int x = stack.takeInt();
            if (number == 33 || number == 34) {
                if (y == 0) {
                    return TRAP_DIVISION;
                }
                stack.putNumber(number == 33 ? x / y : x % y);
            } else {
                stack.putNumber(ofInts(number, x, y));
            }
            return NO_TRAP;
        }

        private static int ofInts(int number, int x, int y) {
            switch (number) {
                case 30:
                    return x + y;
                case 31:
                    return x - y;
                case 32:
                    return x * y;
                case 35:
                    return x & y;
                case 36:
                    return x | y;
                case 37:
                    return x ^ y;
                case 38:
                    return x << y;
                case 39:
                    return x >> y;
                case 40:
                    return x >>> y;
                case 41:
                    return x == y ? 1 : 0;
                case 42:
                    return x != y ? 1 : 0;
                case 43:
                    return x < y ? 1 : 0;
                default:
                    return (x & LOW_HALF) < (y & LOW_HALF) ? 1 : 0;
            }
        }

        private static int stepLongs(Cells stack, int number) {
            long y = stack.takeNumber();
            if (number == Instruction.LONG_IS_ZERO) {
                stack.putTruth(y == 0);
                return NO_TRAP;
            }
            long x = stack.takeNumber();
            if (number == 53 || number == 54) {
                if (y == 0) {
                    return TRAP_DIVISION;
                }
                stack.putNumber(number == 53 ? x / y : x % y);
            } else {
                stack.putNumber(ofLongs(number, x, y));
            }
            return NO_TRAP;
        }

        private static long ofLongs(int number, long x, long y) {
            switch (number) {
                case 50:
                    return x + y;
                case 51:
                    return x - y;
                case 52:
                    return x * y;
                case 55:
                    return x & y;
                case 56:
                    return x | y;
                case 57:
                    return x ^ y;
                case 58:
                    return x << y;
                case 59:
                    return x >> y;
                case 60:
                    return x >>> y;
                case 61:
                    return x == y ? 1 : 0;
                case 62:
                    return x != y ? 1 : 0;
                default:
                    return x < y ? 1 : 0;
            }
        }

        private static int stepReals(Cells stack, int number) {
            double y = stack.takeReal();
            if (number == Instruction.NEGATE) {
                stack.putReal(0.0 - y);
                return NO_TRAP;
            }
            double x = stack.takeReal();
            if (number == 73 && y == 0.0) {
                return TRAP_DIVISION;
            }
            if (number == 74 || number == 75) {
                stack.putTruth(number == 74 ? x == y : x < y);
                return NO_TRAP;
            }
            double z = ofReals(number, x, y);
            if (z > 1.0E300 || z < -1.0E300) {
                return TRAP_RANGE;
            }
            stack.putReal(z);
            return NO_TRAP;
        }

        /** No double in the machine is beyond 1.0E300, and 0.0 divides nothing: no answer is NaN. */
        private static double ofReals(int number, double x, double y) {
            switch (number) {
                case 70:
                    return x + y;
                case 71:
                    return x - y;
                case 72:
                    return x * y;
                default:
                    return y == 0.0 ? 0.0 : x / y;
            }
        }

        private static int convert(Cells stack, int number) {
            switch (number) {
                case 80:
                    stack.putNumber(stack.takeInt());
                    break;
                case 82: case 84:
                    stack.putReal((double) stack.takeNumber());
                    break;
                case 83:
                    return cut(stack);
                case 85:
                    stack.putNumber(stack.takeNumber() & LOW_HALF);
                    break;
                default:
                    break;
            }
            return NO_TRAP;
        }

        private static int cut(Cells stack) {
            double x = stack.takeReal();
            if (x >= 2147483648.0 || x <= -2147483649.0) {
                return TRAP_RANGE;
            }
            stack.putNumber((int) x);
            return NO_TRAP;
        }
    }
}
