/** Promises 6 and 9: the most there may be: frames, KINDS on the STACK, calls, bytes of CODE. */
public final class LimitsTest {
    public static void main(String[] args) {
        blocksToEachFrame();
        loopsToEachFrame();
        elseInTheEighthFrame();
        checkingBehindTheEighthFrame();
        fullStackInSixCalls();
        callsOnAFullStack();
        lastBytes();
        mostCallsOfAnObject();
        Trial.finish();
    }

    /** Eight frames: a jump to each of them goes behind its END, and its RESULT comes along. */
    private static void blocksToEachFrame() {
        int[] behind = {6, 20, 1, 30};
        for (int kept = 0; kept < 8; kept++) {
            int[] code = Trial.join(Trial.repeat(7, 2, 1), Trial.row(20, 99, 20, 50, 7, kept),
                    Trial.repeat(7, behind), Trial.row(6));
            StackForge x = Trial.forge(0, 1, 0, code);
            Trial.gives("jump to " + kept, 50 + 7 - kept, x);
            int behindIt = kept == 7 ? 0 : 2 + 3 * (6 - kept) + 1;
            Trial.same("jump to " + kept + ": steps", x.count(1), 7 + 3 + behindIt);
            int[] chosen = Trial.join(Trial.repeat(7, 2, 1), Trial.row(20, 50, 15, 0, 8, kept),
                    Trial.repeat(7, behind), Trial.row(6));
            Trial.gives("8 to " + kept, 50 + 7 - kept, Trial.forge(1, 1, 0, chosen), 1);
            Trial.gives("8 to " + kept + ", not done", 57, Trial.forge(1, 1, 0, chosen), 0);
            int[] one = Trial.join(Trial.repeat(7, 2, 1),
                    Trial.row(20, 50, 15, 0, 9, 1, 7, kept), Trial.repeat(7, behind), Trial.row(6));
            Trial.gives("9 to " + kept, 50 + 7 - kept, Trial.forge(1, 1, 0, one), 1);
            Trial.gives("9 to the outermost", 50, Trial.forge(1, 1, 0, one), 0);
        }
        int[] leaving = Trial.join(Trial.repeat(7, 2, 0), Trial.row(20, 50, 10), Trial.repeat(7, 6),
                Trial.row(20, 1, 6));
        Trial.gives("10 from the eighth", 50, Trial.forge(0, 1, 0, leaving));
    }

    /** Seven loops in one another: the loop that is jumped to begins those within it anew. */
    private static void loopsToEachFrame() {
        for (int to = 0; to < 7; to++) {
            int[] code = Trial.join(Trial.repeat(7, 3, 0),
                    Trial.row(15, 0, 20, 1, 31, 17, 0, 8, to), Trial.repeat(7, 6),
                    Trial.row(15, 0, 6));
            StackForge x = Trial.forge(1, 1, 0, code);
            Trial.gives("loop " + to, 0, x, 4);
            Trial.same("loop " + to + ": steps", x.count(1), 7 + 4 * 5 + 3 * to + 7 + 2);
        }
    }

    private static void elseInTheEighthFrame() {
        int[] code = Trial.join(Trial.repeat(6, 2, 0),
                Trial.row(15, 0, 4, 1, 20, 8, 5, 20, 9, 6, 16, 0), Trial.repeat(6, 6),
                Trial.row(15, 0, 20, 100, 30, 6));
        StackForge x = Trial.forge(1, 1, 0, code);
        Trial.gives("if", 108, x, 1);
        Trial.same("if: steps", x.count(1), 6 + 5 + 6 + 4);
        Trial.gives("else", 109, x, 0);
        Trial.same("else: steps", x.count(1), 6 + 5 + 6 + 4);
        int[] without = Trial.join(Trial.repeat(6, 2, 0),
                Trial.row(15, 0, 4, 0, 20, 8, 16, 0, 6), Trial.repeat(6, 6), Trial.row(15, 0, 6));
        Trial.gives("if without an else", 8, Trial.forge(1, 1, 0, without), 1);
        Trial.gives("if without an else, 0", 0, Trial.forge(1, 1, 0, without), 0);
    }

    /** Behind the END of the eighth frame the seventh is looked at with its own RESULT and BASE. */
    private static void checkingBehindTheEighthFrame() {
        int[] six = Trial.repeat(5, 2, 0);
        int[] ends = Trial.repeat(6, 6);
        Trial.same("the seventh's result", Trial.fault(0, 0, 0, Trial.join(six,
                Trial.row(20, 1, 2, 2, 2, 0, 6, 21, 5, 6, 13, 13), ends)), -1);
        Trial.same("the seventh without its result", Trial.fault(0, 0, 0, Trial.join(six,
                Trial.row(20, 1, 2, 2, 2, 0, 6, 6, 13, 13), ends)), 17);
        Trial.same("the seventh's base", Trial.fault(0, 0, 0, Trial.join(six,
                Trial.row(20, 1, 2, 0, 2, 1, 20, 5, 6, 13, 13, 6, 13), ends)), 20);
        Trial.same("the eighth dead, the seventh not", Trial.fault(0, 0, 0, Trial.join(six,
                Trial.row(2, 0, 2, 0, 0, 6, 13, 6), ends)), 16);
        Trial.same("the seventh dead, the eighth not", Trial.fault(0, 0, 0, Trial.join(six,
                Trial.row(2, 0, 0, 2, 0, 13, 6, 6), ends)), 15);
        Trial.same("both dead", Trial.fault(0, 0, 0, Trial.join(six,
                Trial.row(2, 0, 0, 2, 0, 0, 13, 6, 13, 6), ends)), -1);
    }

    /** Each call has a STACK of its own: sixteen in each of six calls at a time. */
    private static void fullStackInSixCalls() {
        int[] pushes = {20, 1, 20, 2, 20, 3, 20, 4, 20, 5, 20, 6, 20, 7, 20, 8, 20, 9, 20, 10, 20, 11,
            20, 12, 20, 13, 20, 14};
        StackForge x = Trial.forge(1, 1, 0, Trial.join(pushes,
                Trial.row(15, 0, 4, 1, 15, 0, 20, 1, 31, 11, 0, 5, 20, 1, 6), Trial.repeat(14, 30),
                Trial.row(6)));
        for (int n = 0; n <= 5; n++) {
            Trial.gives("in " + (n + 1) + " calls", 1 + 105 * (n + 1), x, n);
        }
        Trial.traps("in seven calls", 1, x, 6);
        Trial.gives("in six calls again", 631, x, 5);
    }

    private static void callsOnAFullStack() {
        int[] full = Trial.repeat(16, 20, 1);
        StackForge x = new StackForge();
        Trial.define(x, 1, 0, 1, 0, 20, 7, 6);
        Trial.define(x, 2, 1, 2, 0, 21, 7, 6);
        Trial.define(x, 0, 0, 0, 0, Trial.join(full, Trial.row(12, 1, 10, 6)));
        Trial.same("12 takes its place before it puts", x.fault(0), -1);
        Trial.define(x, 0, 0, 0, 0, Trial.join(full, Trial.row(11, 2, 10, 6)));
        Trial.same("11 takes its parameter before it puts", x.fault(0), -1);
        Trial.define(x, 0, 0, 0, 0, Trial.join(full, Trial.row(11, 2, 20, 1, 10, 6)));
        Trial.same("and is full then", x.fault(0), 34);
        Trial.define(x, 0, 0, 1, 0, Trial.join(Trial.repeat(15, 20, 1), Trial.row(11, 1, 10, 6)));
        Trial.gives("a result as the sixteenth", 7, x);
        for (int begin = 2; begin <= 3; begin++) {
            int[] code = Trial.join(full, Trial.row(begin, 0, 6, 10, 6));
            Trial.same("a frame on a full stack " + begin, Trial.fault(0, 0, 0, code), -1);
            int[] fifteen = Trial.join(Trial.repeat(15, 20, 1),
                    Trial.row(begin, 1, 20, 9, 6, 10, 6));
            Trial.gives("a frame's result as the sixteenth " + begin, 9,
                    Trial.forge(0, 1, 0, fifteen));
        }
        int[] ifOnFull = Trial.join(full, Trial.row(4, 1, 20, 9, 5, 20, 8, 6, 10, 6));
        Trial.gives("if on a full stack", 9, Trial.forge(0, 1, 0, ifOnFull));
        int[] elseTooMuch = Trial.join(full, Trial.row(4, 0, 20, 9, 13, 5, 20, 9, 20, 8, 10, 6, 6));
        Trial.same("seventeen behind an else", Trial.fault(0, 1, 0, elseTooMuch), 40);
    }

    /** Frames and jumps whose bytes are the last of sixty, and an instruction cut off there. */
    private static void lastBytes() {
        int[] most = Trial.repeat(50, 1);
        int[] code = Trial.join(most, Trial.row(15, 0, 4, 0, 0, 5, 7, 0, 6, 6));
        StackForge x = Trial.ended(Trial.forge(1, 0, 0, code), 0);
        Trial.same("60 bytes", x.count(0), StackForge.DONE);
        Trial.same("60 bytes: steps", x.count(1), 50 + 2 + 1 + 1);
        Trial.traps("60 bytes: the trap", 1, Trial.forge(1, 0, 0, code), 1);
        Trial.same("sixty without an end", Trial.fault(0, 0, 0, Trial.repeat(60, 1)), 60);
        for (int number : new int[] {2, 7, 11, 15, 20, 23}) {
            Trial.same("cut off at sixty " + number,
                    Trial.fault(0, 0, 0, Trial.join(Trial.repeat(59, 1), Trial.row(number))), 60);
        }
        Trial.same("9 cut off at sixty",
                Trial.fault(0, 0, 0, Trial.join(Trial.repeat(56, 1), Trial.row(9, 3, 0, 0))), 60);
        Trial.same("bad at the sixtieth",
                Trial.fault(0, 0, 0, Trial.join(Trial.repeat(59, 1), Trial.row(13))), 59);
        Trial.same("behind the end at the sixtieth",
                Trial.fault(0, 0, 0, Trial.join(Trial.repeat(58, 1), Trial.row(6, 6))), 59);
    }

    /** An object is used for at most 512 calls: a run that takes them all. */
    private static void mostCallsOfAnObject() {
        StackForge x = Trial.forge(0, 0, 0, 3, 0, 18, 0, 20, 1, 30, 19, 0, 7, 0, 6, 6);
        x.check();
        x.start(0);
        for (int i = 0; i < 500; i++) {
            Trial.same("run " + i, x.run(20), 20);
        }
        Trial.same("steps", x.count(1), 10000);
        Trial.same("rounds", x.global(0), 2000);
        Trial.same("one call", x.count(2), 1);
        Trial.same("stop", x.stop(), 10000);
    }
}
