/** Promise 6: fault, and with it all that CHECKING asks of code, but for the kinds of numbers. */
public final class FaultTest {
    public static void main(String[] args) {
        placesAndLengths();
        wrongNumbers();
        atAnyTime();
        missingBytes();
        unknownNumbers();
        behindTheEnd();
        frames();
        elses();
        jumps();
        jumpsToIfs();
        jumpsToOneOf();
        deadCode();
        anyKinds();
        calls();
        variables();
        globals();
        selects();
        mostFrames();
        mostKinds();
        Trial.finish();
    }

    private static void good(String what, int parameters, int result, int locals, int... code) {
        Trial.same(what, Trial.fault(parameters, result, locals, code), -1);
    }

    private static void bad(String what, int place, int parameters, int result, int locals,
            int... code) {
        Trial.same(what, Trial.fault(parameters, result, locals, code), place);
    }

    private static void placesAndLengths() {
        Trial.same("empty", new StackForge().fault(5), 0);
        bad("empty with a shape", 0, 1, 1, 1);
        good("an end", 0, 0, 0, 6);
        bad("no end", 1, 0, 0, 0, 1);
        bad("no end, longer", 4, 0, 0, 0, 20, 1, 13, 1);
        bad("an inner end alone", 3, 0, 0, 0, 2, 0, 6);
        bad("the third of three", 4, 0, 0, 0, 20, 1, 20, 2, 50, 13, 6);
        bad("the first of two faults", 1, 0, 0, 0, 1, 13, 29, 6);
        StackForge x = new StackForge();
        for (int f = 0; f < 6; f++) {
            Trial.define(x, f, 0, 0, 0, Trial.join(Trial.repeat(f, 1), Trial.row(13, 6)));
        }
        for (int f = 0; f < 6; f++) {
            Trial.same("of function " + f, x.fault(f), f);
        }
    }

    private static void wrongNumbers() {
        StackForge x = new StackForge();
        int[] functions = {-1, 6, Integer.MIN_VALUE, Integer.MAX_VALUE};
        for (int f : functions) {
            Trial.illegalArgument("function " + f, () -> x.fault(f));
        }
    }

    private static void atAnyTime() {
        StackForge x = Trial.forge(1, 1, 0, 15, 0, 4, 1, 20, 5, 5, 20, 9, 6, 2, 0, 6, 6);
        Trial.define(x, 1, 0, 0, 0, 3, 0, 20, 0, 8, 0, 6, 6);
        Trial.same("not checked", x.fault(0), -1);
        x.check();
        x.argue(0);
        x.start(0);
        // Asking for faults while it runs leaves the run as it is.
        while (x.count(0) == StackForge.RUNNING) {
            Trial.same("running 0", x.fault(0), -1);
            Trial.same("running 1", x.fault(1), -1);
            Trial.same("running, empty", x.fault(2), 0);
            x.run(1);
        }
        Trial.same("result", x.result(), 9);
        Trial.same("steps", x.count(1), 7);
        Trial.same("checked", x.count(4), 1);
        x.code(0, 1L, 1);
        Trial.same("behind the end", x.fault(0), 14);
        Trial.same("others", x.fault(1), -1);
    }

    private static void missingBytes() {
        for (int number = 0; number < 256; number++) {
            boolean one = (number >= 2 && number <= 4) || number == 7 || number == 8
                    || number == 11 || number == 12 || (number >= 15 && number <= 28);
            if (one) {
                bad("no operand of " + number, 2, 0, 0, 0, 1, number);
            }
        }
        bad("9 alone", 1, 0, 0, 0, 9);
        bad("9 without a jump", 2, 0, 0, 0, 9, 0);
        bad("9 0 with its jump takes an int", 0, 0, 0, 0, 9, 0, 0, 6);
        bad("9 1 without its second", 3, 0, 0, 0, 9, 1, 0);
        bad("9 3 without its last", 5, 0, 0, 0, 9, 3, 0, 0, 0);
        bad("9 3 with all", 0, 0, 0, 0, 9, 3, 0, 0, 0, 0);
        bad("9 4", 0, 0, 0, 0, 9, 4);
        bad("9 255", 1, 0, 0, 0, 1, 9, 255);
        // That bytes are missing is seen before anything else of the instruction.
        bad("4 takes an int", 1, 0, 0, 0, 4);
        bad("23 takes an int", 1, 0, 0, 0, 23);
        bad("9 2 has no such frames", 4, 0, 0, 0, 9, 2, 200, 200);
        bad("9 2 has no such frames, all there", 0, 0, 0, 0, 9, 2, 200, 200, 200, 6);
        bad("no such number", 1, 0, 0, 0, 1, 29);
        bad("nor this one", 0, 0, 0, 0, 200);
    }

    private static void unknownNumbers() {
        for (int number = 0; number < 256; number++) {
            boolean known = number <= 28 || (number >= 30 && number <= 45)
                    || (number >= 50 && number <= 64) || (number >= 70 && number <= 76)
                    || (number >= 80 && number <= 85);
            if (!known) {
                bad("number " + number, 1, 0, 0, 0, 10, number, 0, 0, 0, 6);
            }
        }
    }

    private static void behindTheEnd() {
        for (int number = 0; number < 256; number++) {
            bad("behind the end " + number, 1, 0, 0, 0, 6, number);
            bad("behind the end, with more " + number, 2, 0, 0, 0, 1, 6, number, 0, 0, 0, 6);
        }
        bad("behind the end of a longer one", 6, 0, 1, 0, 2, 0, 6, 20, 5, 6, 13, 6);
    }

    private static void frames() {
        for (int begin = 2; begin <= 3; begin++) {
            good("no result " + begin, 0, 0, 0, begin, 0, 6, 6);
            bad("k 4 of " + begin, 0, 0, 0, 0, begin, 4, 6, 6);
            bad("k 255 of " + begin, 0, 0, 0, 0, begin, 255, 6, 6);
            bad("above the base " + begin, 4, 0, 0, 0, begin, 0, 20, 1, 6, 6);
            for (int kind = 1; kind <= 3; kind++) {
                int other = kind % 3 + 1;
                int[] push = Trial.PUSH[kind];
                good("result " + kind, 0, kind, 0,
                        Trial.join(Trial.row(begin, kind), push, Trial.row(6, 6)));
                bad("no result " + kind, 2, 0, kind, 0, begin, kind, 6, 6);
                bad("another result " + kind, 4, 0, kind, 0,
                        Trial.join(Trial.row(begin, kind), Trial.PUSH[other], Trial.row(6, 6)));
                bad("two results " + kind, 6, 0, kind, 0,
                        Trial.join(Trial.row(begin, kind), push, push, Trial.row(6, 6)));
                bad("what it puts " + kind, 5, 0, other, 0,
                        Trial.join(Trial.row(begin, kind), push, Trial.row(6, 6)));
                bad("not from below the base " + kind, 4, 0, kind, 0,
                        Trial.join(push, Trial.row(begin, kind, 6, 6)));
            }
        }
        bad("below the base", 4, 0, 0, 0, 20, 1, 2, 0, 13, 6, 13, 6);
        good("below the base of another", 0, 0, 0, 20, 1, 2, 0, 6, 13, 6);
        bad("the outermost: above the base", 2, 0, 0, 0, 20, 1, 6);
        bad("the outermost: no result", 0, 0, 1, 0, 6);
        bad("the outermost: two", 4, 0, 1, 0, 20, 1, 20, 1, 6);
    }

    private static void elses() {
        good("if", 1, 0, 0, 15, 0, 4, 0, 6, 6);
        good("if and else", 1, 0, 0, 15, 0, 4, 0, 5, 6, 6);
        good("with a result", 1, 1, 0, 15, 0, 4, 1, 20, 1, 5, 20, 2, 6, 6);
        bad("if takes an int: none", 0, 0, 0, 0, 4, 0, 6, 6);
        bad("if takes an int: a long", 2, 0, 0, 0, 21, 1, 4, 0, 6, 6);
        bad("if takes an int: a double", 2, 0, 0, 0, 22, 1, 4, 0, 6, 6);
        bad("k 4", 2, 1, 0, 0, 15, 0, 4, 4, 6, 6);
        bad("below the base", 6, 1, 0, 0, 15, 0, 15, 0, 4, 0, 13, 6, 6);
        bad("no else with a result", 6, 1, 1, 0, 15, 0, 4, 1, 20, 1, 6, 6);
        bad("no else with a result, dead", 5, 1, 1, 0, 15, 0, 4, 1, 0, 6, 6);
        bad("else twice", 5, 1, 0, 0, 15, 0, 4, 0, 5, 5, 6, 6);
        bad("else of the outermost", 0, 0, 0, 0, 5, 6);
        bad("else of a block", 2, 0, 0, 0, 2, 0, 5, 6, 6);
        bad("else of a loop", 2, 0, 0, 0, 3, 0, 5, 6, 6);
        bad("else of a block in an if", 6, 1, 0, 0, 15, 0, 4, 0, 2, 0, 5, 6, 6, 6);
        good("else behind a block in an if", 1, 0, 0, 15, 0, 4, 0, 2, 0, 6, 5, 6, 6);
        bad("else without the result", 4, 1, 1, 0, 15, 0, 4, 1, 5, 20, 2, 6, 6);
        bad("else with another result", 6, 1, 1, 0, 15, 0, 4, 1, 21, 1, 5, 20, 2, 6, 6);
        bad("else with more", 6, 1, 0, 0, 15, 0, 4, 0, 20, 1, 5, 6, 6);
        bad("else's part without the result", 7, 1, 1, 0, 15, 0, 4, 1, 20, 1, 5, 6, 6);
        bad("else's part with another", 9, 1, 1, 0, 15, 0, 4, 1, 20, 1, 5, 22, 2, 6, 6);
        bad("else's part with more", 7, 1, 0, 0, 15, 0, 4, 0, 5, 20, 1, 6, 6);
        good("dead before else", 1, 1, 0, 15, 0, 4, 1, 0, 5, 20, 2, 6, 6);
        bad("not dead behind else", 6, 1, 1, 0, 15, 0, 4, 1, 0, 5, 6, 6);
        good("dead behind else", 1, 1, 0, 15, 0, 4, 1, 20, 1, 5, 0, 6, 6);
        good("an else for each of two", 1, 0, 0, 15, 0, 4, 0, 15, 0, 4, 0, 5, 6, 5, 6, 6);
        // Another if at the same place had an else before the function was written anew.
        StackForge x = Trial.forge(1, 0, 0, 15, 0, 4, 0, 5, 6, 6);
        Trial.same("with its else", x.fault(0), -1);
        Trial.same("with its else, again", x.fault(0), -1);
        Trial.define(x, 0, 1, 1, 0, 15, 0, 4, 1, 20, 1, 6, 6);
        Trial.same("without an else", x.fault(0), 6);
    }

    private static void jumps() {
        good("to the outermost", 0, 0, 0, 7, 0, 6);
        bad("no such frame", 0, 0, 0, 0, 7, 1, 6);
        bad("far off", 0, 0, 0, 0, 7, 255, 6);
        good("the second", 0, 0, 0, 2, 0, 7, 1, 6, 6);
        bad("the third of two", 2, 0, 0, 0, 2, 0, 7, 2, 6, 6);
        bad("the outermost's result is missing", 0, 0, 1, 0, 7, 0, 6);
        good("the outermost's result", 0, 1, 0, 20, 5, 7, 0, 6);
        bad("another than the outermost's", 2, 0, 1, 0, 21, 5, 7, 0, 6);
        good("the block's result", 0, 0, 0, 2, 3, 22, 5, 7, 0, 6, 13, 6);
        bad("the block's result is missing", 2, 0, 0, 0, 2, 3, 7, 0, 6, 13, 6);
        bad("not what is under the base", 4, 0, 0, 0, 22, 5, 2, 3, 7, 0, 6, 13, 13, 6);
        good("more than that may be there", 0, 0, 0, 2, 3, 20, 1, 22, 5, 7, 0, 6, 13, 6);
        good("a loop takes nothing", 0, 1, 0, 3, 1, 7, 0, 6, 6);
        good("a loop takes nothing, 8", 0, 1, 0, 3, 1, 20, 0, 8, 0, 20, 5, 6, 6);
        bad("8 puts nothing for a loop", 6, 0, 1, 0, 3, 1, 20, 0, 8, 0, 6, 6);
        good("through a loop", 0, 1, 0, 3, 1, 20, 5, 7, 1, 6, 6);
        good("8 with no result", 0, 0, 0, 20, 1, 8, 0, 6);
        bad("8 takes an int: none", 0, 0, 0, 0, 8, 0, 6);
        bad("8 takes an int: a long", 2, 0, 0, 0, 21, 1, 8, 0, 6);
        bad("8 has no such frame", 2, 0, 0, 0, 20, 1, 8, 1, 6);
        good("8 puts it back", 0, 2, 0, 21, 5, 20, 1, 8, 0, 6);
        bad("8 takes the result: none", 2, 0, 2, 0, 20, 1, 8, 0, 21, 5, 6);
        bad("8 takes the result: another", 4, 0, 2, 0, 20, 5, 20, 1, 8, 0, 6);
        good("10", 0, 0, 0, 10, 6);
        good("10 from within", 0, 1, 0, 2, 0, 20, 1, 10, 6, 20, 1, 6);
        bad("10 without the result", 2, 0, 1, 0, 2, 0, 10, 6, 20, 1, 6);
        bad("10 with another", 4, 0, 1, 0, 2, 0, 21, 1, 10, 6, 20, 1, 6);
        bad("10 not from below the base", 4, 0, 1, 0, 20, 1, 2, 0, 10, 6, 6);
        good("10: not the inner's result", 0, 0, 0, 2, 1, 10, 6, 13, 6);
    }

    /** A jump to an IF takes its RESULT, in front of its ELSE and behind it. */
    private static void jumpsToIfs() {
        good("in front", 1, 1, 0, 15, 0, 4, 1, 20, 1, 7, 0, 5, 20, 2, 6, 6);
        good("behind", 1, 1, 0, 15, 0, 4, 1, 20, 1, 5, 20, 2, 7, 0, 6, 6);
        bad("in front, none", 4, 1, 1, 0, 15, 0, 4, 1, 7, 0, 5, 20, 2, 6, 6);
        bad("behind, none", 7, 1, 1, 0, 15, 0, 4, 1, 20, 1, 5, 7, 0, 6, 6);
        bad("in front, another", 6, 1, 1, 0, 15, 0, 4, 1, 21, 1, 7, 0, 5, 20, 2, 6, 6);
        bad("behind, another", 9, 1, 1, 0, 15, 0, 4, 1, 20, 1, 5, 22, 2, 7, 0, 6, 6);
        good("8", 1, 1, 0, 15, 0, 4, 1, 20, 1, 15, 0, 8, 0, 5, 20, 2, 15, 0, 8, 0, 6, 6);
        bad("8, none", 6, 1, 1, 0, 15, 0, 4, 1, 15, 0, 8, 0, 5, 20, 2, 6, 6);
        good("9", 1, 1, 0, 15, 0, 4, 1, 20, 1, 15, 0, 9, 1, 0, 1, 5, 20, 2, 6, 6);
        bad("9, an IF without a RESULT and the outermost", 8, 1, 1, 0, 15, 0, 4, 0, 20, 1, 15, 0, 9, 1, 0,
                1, 6, 20, 2, 6);
        good("without a RESULT", 1, 0, 0, 15, 0, 4, 0, 7, 0, 5, 7, 0, 6, 6);
        good("without a RESULT, from within", 1, 0, 0, 15, 0, 4, 0, 3, 1, 7, 1, 6, 13, 6, 6);
    }

    private static void jumpsToOneOf() {
        good("one", 0, 0, 0, 20, 0, 9, 0, 0, 6);
        good("four", 0, 0, 0, 2, 0, 20, 0, 9, 3, 0, 1, 1, 0, 6, 6);
        bad("takes an int: none", 0, 0, 0, 0, 9, 0, 0, 6);
        bad("takes an int: a double", 2, 0, 0, 0, 22, 0, 9, 0, 0, 6);
        bad("the first is not there", 2, 0, 0, 0, 20, 0, 9, 1, 1, 0, 6);
        bad("the last is not there", 2, 0, 0, 0, 20, 0, 9, 1, 0, 1, 6);
        bad("the third of four is not there", 2, 0, 0, 0, 20, 0, 9, 3, 0, 0, 1, 0, 6);
        good("with a result", 0, 1, 0, 20, 7, 20, 0, 9, 1, 0, 0, 6);
        bad("the result is missing", 2, 0, 1, 0, 20, 0, 9, 1, 0, 0, 6);
        bad("another result", 4, 0, 1, 0, 21, 7, 20, 0, 9, 1, 0, 0, 6);
        good("the same results", 0, 1, 0, 2, 1, 20, 7, 20, 0, 9, 2, 0, 1, 0, 6, 6);
        bad("not the same: the last", 6, 0, 1, 0, 2, 2, 20, 7, 20, 0, 9, 1, 1, 0, 6, 13, 20, 7, 6);
        bad("not the same: the first", 3, 0, 1, 0, 2, 2, 0, 9, 2, 0, 1, 1, 6, 13, 20, 7, 6);
        bad("not the same: the second", 3, 0, 1, 0, 2, 2, 0, 9, 2, 1, 0, 1, 6, 13, 20, 7, 6);
        good("a loop and none", 0, 0, 0, 3, 1, 20, 0, 9, 1, 0, 1, 6, 13, 6);
        bad("a loop and an int", 6, 0, 1, 0, 3, 1, 20, 5, 20, 0, 9, 1, 0, 1, 6, 6);
    }

    private static void deadCode() {
        int[][] ends = {{0}, {7, 0}, {20, 0, 9, 0, 0}, {10}};
        for (int[] end : ends) {
            int at = end.length;
            String what = "behind " + java.util.Arrays.toString(end);
            good(what, 0, 0, 0, Trial.join(end, Trial.row(6)));
            good(what + " any is taken", 0, 0, 0, Trial.join(end, Trial.row(13, 13, 30, 13, 6)));
            good(what + " ints are put", 0, 0, 0, Trial.join(end, Trial.row(30, 13, 6)));
            bad(what + " a long is not an int", at + 1, 0, 0, 0,
                    Trial.join(end, Trial.row(50, 30, 13, 6)));
            bad(what + " what is put is there", at + 2, 0, 0, 0,
                    Trial.join(end, Trial.row(20, 1, 6)));
            // A frame begun there is not dead.
            bad(what + " a block", at + 2, 0, 0, 0, Trial.join(end, Trial.row(2, 0, 13, 6, 6)));
            bad(what + " a block's result", at + 2, 0, 0, 0,
                    Trial.join(end, Trial.row(2, 1, 6, 6)));
            good(what + " behind a block", 0, 0, 0, Trial.join(end, Trial.row(2, 0, 6, 13, 6)));
            // What was there before is gone.
            good(what + " nothing is left", 0, 0, 0,
                    Trial.join(Trial.row(22, 1, 22, 1), end, Trial.row(6)));
            good(what + " of the stack", 0, 0, 0,
                    Trial.join(Trial.row(22, 1, 22, 1), end, Trial.row(30, 13, 6)));
        }
        bad("8 is no such", 4, 0, 0, 0, 20, 0, 8, 0, 13, 6);
        good("a dead block alone is dead", 0, 0, 0, 2, 0, 0, 13, 6, 6);
        bad("not what is outside", 4, 0, 0, 0, 2, 0, 0, 6, 13, 6);
        good("only down to its base", 0, 1, 0, 20, 5, 2, 0, 22, 5, 0, 6, 6);
        bad("not below its base", 9, 0, 1, 0, 22, 5, 2, 0, 22, 5, 0, 13, 6, 6);
        good("a result of a dead frame", 0, 2, 0, 0, 6);
        good("of a dead block", 0, 2, 0, 2, 2, 0, 6, 6);
        bad("has its kind", 4, 0, 1, 0, 2, 2, 0, 6, 6);
        bad("an else is not dead", 7, 0, 0, 0, 20, 0, 4, 0, 0, 5, 1, 13, 6, 6);
        bad("a later block is not dead", 6, 0, 0, 0, 2, 0, 0, 6, 3, 0, 13, 6, 6);
        StackForge x = Trial.forge(0, 0, 0, 0, 6);
        Trial.define(x, 1, 0, 0, 0, 13, 6);
        Trial.same("a dead one", x.fault(0), -1);
        Trial.same("and then one that is not", x.fault(1), 0);
        bad("instructions that are not there", 1, 0, 0, 0, 0, 29, 6);
        bad("variables that are not there", 1, 0, 0, 0, 0, 15, 0, 6);
        bad("frames that are not there", 1, 0, 0, 0, 0, 7, 1, 6);
        bad("functions that are not there", 1, 0, 0, 0, 0, 11, 6, 6);
        bad("functions without code", 1, 0, 0, 0, 0, 11, 1, 6);
        bad("a wrong k", 1, 0, 0, 0, 0, 2, 4, 6, 6);
    }

    private static void anyKinds() {
        // 14 puts ANY if it takes ANY twice, and ANY is then on the stack as every kind.
        good("any as an int", 0, 1, 0, 0, 14, 6);
        good("any as a long", 0, 2, 0, 0, 14, 6);
        good("any as a double", 0, 3, 0, 0, 14, 6);
        bad("any is there", 2, 0, 0, 0, 0, 14, 6);
        good("any in a variable", 3, 0, 0, 0, 14, 16, 0, 6);
        good("any with an int", 0, 0, 0, 0, 14, 20, 1, 30, 13, 6);
        good("8 takes any and puts its kind", 0, 2, 0, 0, 14, 20, 1, 8, 0, 6);
        good("8 from nothing", 0, 2, 0, 0, 20, 1, 8, 0, 6);
        bad("8 puts that kind", 6, 0, 2, 0, 0, 14, 20, 1, 8, 0, 30, 6);
        bad("8 puts that kind, from nothing", 5, 0, 2, 0, 0, 20, 1, 8, 0, 30, 6);
        bad("17 puts its kind", 4, 1, 0, 0, 0, 14, 17, 0, 80, 13, 6);
        good("17 puts its kind", 1, 0, 0, 0, 14, 17, 0, 81, 13, 6);
    }

    private static void calls() {
        StackForge x = Trial.forge(123, 2, 0, 15, 1, 6);
        int[] all = {20, 1, 21, 1, 22, 1};
        Trial.define(x, 1, 0, 2, 0, Trial.join(all, Trial.row(11, 0, 6)));
        Trial.same("in their order", x.fault(1), -1);
        Trial.define(x, 1, 0, 2, 0, Trial.join(all, Trial.row(20, 1, 12, 0, 6)));
        Trial.same("12 in their order", x.fault(1), -1);
        Trial.define(x, 1, 0, 2, 0, Trial.join(all, Trial.row(12, 0, 6)));
        Trial.same("12 takes an int", x.fault(1), 6);
        Trial.define(x, 1, 0, 2, 0, 22, 1, 21, 1, 20, 1, 11, 0, 6);
        Trial.same("the wrong way", x.fault(1), 6);
        Trial.define(x, 1, 0, 2, 0, 21, 1, 22, 1, 11, 0, 6);
        Trial.same("the first is missing", x.fault(1), 4);
        Trial.define(x, 1, 0, 1, 0, Trial.join(all, Trial.row(11, 0, 6)));
        Trial.same("the result is a long", x.fault(1), 8);
        Trial.define(x, 1, 0, 0, 0, Trial.join(all, Trial.row(11, 0, 6)));
        Trial.same("the result is there", x.fault(1), 8);
        Trial.define(x, 1, 0, 0, 0, 11, 2, 6);
        Trial.same("11 without code", x.fault(1), 0);
        Trial.define(x, 1, 0, 0, 0, 20, 1, 12, 2, 6);
        Trial.same("12 without code", x.fault(1), -1);
        Trial.define(x, 1, 0, 0, 0, 20, 1, 12, 6, 6);
        Trial.same("12 of no function", x.fault(1), 2);
        Trial.define(x, 1, 0, 0, 0, 11, 6, 6);
        Trial.same("11 of no function", x.fault(1), 0);
        Trial.define(x, 1, 0, 0, 0, 11, 255, 6);
        Trial.same("11 of no function, 255", x.fault(1), 0);
        Trial.define(x, 1, 0, 0, 0, 11, 1, 6);
        Trial.same("itself", x.fault(1), -1);
        // LOCALS are not taken.
        Trial.define(x, 3, 0, 0, 123, 6);
        Trial.define(x, 1, 0, 0, 0, 11, 3, 6);
        Trial.same("locals", x.fault(1), -1);
        Trial.define(x, 5, 0, 0, 0, 11, 3, 6);
        Trial.same("function 5", x.fault(5), -1);
    }

    private static void variables() {
        for (int kind = 1; kind <= 3; kind++) {
            int[] push = Trial.PUSH[kind];
            int[] other = Trial.PUSH[kind % 3 + 1];
            good("15 " + kind, kind, kind, 0, 15, 0, 6);
            bad("15 of another " + kind, 2, kind, kind % 3 + 1, 0, 15, 0, 6);
            good("16 " + kind, 0, 0, kind, Trial.join(push, Trial.row(16, 0, 6)));
            bad("16 of another " + kind, 2, 0, 0, kind, Trial.join(other, Trial.row(16, 0, 6)));
            good("17 " + kind, 0, kind, kind, Trial.join(push, Trial.row(17, 0, 6)));
            bad("17 of another " + kind, 2, 0, 0, kind, Trial.join(other, Trial.row(17, 0, 13, 6)));
        }
        bad("16 of nothing", 0, 1, 0, 0, 16, 0, 6);
        bad("17 of nothing", 0, 1, 0, 0, 17, 0, 13, 6);
        bad("16 puts nothing", 4, 1, 1, 0, 20, 0, 16, 0, 6);
        bad("17 puts something", 4, 1, 0, 0, 20, 0, 17, 0, 6);
        bad("15 of none", 0, 11, 0, 1, 15, 3, 13, 6);
        bad("16 of none", 2, 11, 0, 1, 20, 0, 16, 3, 6);
        bad("17 of none", 2, 11, 0, 1, 20, 0, 17, 255, 13, 6);
        good("the last of six", 111, 0, 112, 15, 5, 16, 5, 6);
        bad("the seventh of six", 0, 111, 0, 112, 15, 6, 13, 6);
    }

    private static void globals() {
        for (int g = 0; g <= 2; g++) {
            int kind = g + 1;
            good("18 " + g, 0, kind, 0, 18, g, 6);
            bad("18 of another " + g, 2, 0, kind % 3 + 1, 0, 18, g, 6);
            good("19 " + g, 0, 0, 0, Trial.join(Trial.PUSH[kind], Trial.row(19, g, 6)));
            bad("19 of another " + g, 2, 0, 0, 0,
                    Trial.join(Trial.PUSH[kind % 3 + 1], Trial.row(19, g, 6)));
        }
        bad("18 of none", 0, 0, 0, 0, 18, 3, 13, 6);
        bad("18 of none, 255", 0, 0, 0, 0, 18, 255, 13, 6);
        bad("19 of none", 2, 0, 0, 0, 20, 0, 19, 3, 6);
        bad("19 of nothing", 0, 0, 0, 0, 19, 0, 6);
    }

    private static void selects() {
        for (int kind = 1; kind <= 3; kind++) {
            int[] push = Trial.PUSH[kind];
            int[] other = Trial.PUSH[kind % 3 + 1];
            good("14 " + kind, 0, kind, 0, Trial.join(push, push, Trial.row(20, 0, 14, 6)));
            bad("14 of two " + kind, 6, 0, 0, 0,
                    Trial.join(push, other, Trial.row(20, 0, 14, 13, 6)));
            bad("14 puts " + kind, 7, 0, kind % 3 + 1, 0,
                    Trial.join(push, push, Trial.row(20, 0, 14, 6)));
            good("any below " + kind, 0, kind, 0,
                    Trial.join(Trial.row(0), push, Trial.row(20, 0, 14, 6)));
            bad("any below puts " + kind, 6, 0, kind % 3 + 1, 0,
                    Trial.join(Trial.row(0), push, Trial.row(20, 0, 14, 6)));
            good("an any that was put below " + kind, 0, kind, 0,
                    Trial.join(Trial.row(0, 14), push, Trial.row(20, 0, 14, 6)));
            bad("with an any that was put below " + kind, 7, 0, kind % 3 + 1, 0,
                    Trial.join(Trial.row(0, 14), push, Trial.row(20, 0, 14, 6)));
        }
        bad("14 takes an int", 6, 0, 0, 0, 20, 0, 20, 0, 21, 0, 14, 13, 6);
        bad("14 of two alone", 4, 0, 0, 0, 20, 0, 20, 0, 14, 13, 6);
        bad("14 of one alone", 2, 0, 0, 0, 20, 0, 14, 13, 6);
    }

    private static void mostFrames() {
        good("eight", 0, 0, 0,
                Trial.join(Trial.repeat(7, 2, 0), Trial.repeat(8, 6)));
        bad("nine", 14, 0, 0, 0, Trial.join(Trial.repeat(8, 2, 0), Trial.repeat(9, 6)));
        bad("nine with a loop", 14, 0, 0, 0,
                Trial.join(Trial.repeat(7, 3, 0), Trial.row(3, 0), Trial.repeat(9, 6)));
        bad("nine with an if", 16, 0, 0, 0,
                Trial.join(Trial.repeat(7, 2, 0), Trial.row(20, 1, 4, 0), Trial.repeat(9, 6)));
        good("eight at a time, one behind the other", 0, 0, 0,
                Trial.join(Trial.repeat(7, 2, 0), Trial.row(6, 3, 0, 6, 2, 0), Trial.repeat(8, 6)));
        good("from the eighth to the first", 0, 0, 0,
                Trial.join(Trial.repeat(7, 2, 0), Trial.row(7, 7), Trial.repeat(8, 6)));
        bad("from the eighth to none", 14, 0, 0, 0,
                Trial.join(Trial.repeat(7, 2, 0), Trial.row(7, 8), Trial.repeat(8, 6)));
    }

    private static void mostKinds() {
        int[] full = Trial.repeat(16, 20, 1);
        good("sixteen", 0, 0, 0, Trial.join(full, Trial.row(10, 6)));
        bad("seventeen", 32, 0, 0, 0, Trial.join(full, Trial.row(20, 1, 10, 6)));
        bad("seventeen by 15", 32, 1, 0, 0, Trial.join(full, Trial.row(15, 0, 10, 6)));
        bad("seventeen by 18", 32, 0, 0, 0, Trial.join(full, Trial.row(18, 0, 10, 6)));
        good("17 takes before it puts", 1, 0, 0, Trial.join(full, Trial.row(17, 0, 10, 6)));
        good("30 takes before it puts", 0, 0, 0, Trial.join(full, Trial.row(30, 20, 1, 10, 6)));
        bad("seventeen within a block", 34, 0, 0, 0,
                Trial.join(full, Trial.row(2, 0, 20, 1, 13, 6, 10, 6)));
        good("sixteen within a block", 0, 0, 0,
                Trial.join(Trial.repeat(15, 20, 1), Trial.row(2, 0, 20, 1, 13, 6, 10, 6)));
        bad("a result of a dead block", 35, 0, 0, 0,
                Trial.join(full, Trial.row(2, 1, 0, 6, 10, 6)));
        bad("8 puts back what was not there", 37, 0, 0, 0,
                Trial.join(full, Trial.row(2, 1, 0, 13, 13, 8, 0, 6, 10, 6)));
        StackForge x = new StackForge();
        Trial.define(x, 1, 0, 1, 0, 20, 1, 6);
        Trial.define(x, 0, 0, 0, 0, Trial.join(full, Trial.row(11, 1, 10, 6)));
        Trial.same("seventeen by a call", x.fault(0), 32);
    }
}
