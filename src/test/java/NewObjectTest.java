/** Promise 1: a new object. */
public final class NewObjectTest {
    public static void main(String[] args) {
        constants();
        numbersAtFirst();
        nothingIsThereAtFirst();
        nothingIsInTheTableAtFirst();
        objectsAreApart();
        Trial.finish();
    }

    private static void constants() {
        Trial.same("IDLE", StackForge.IDLE, 0);
        Trial.same("RUNNING", StackForge.RUNNING, 1);
        Trial.same("DONE", StackForge.DONE, 2);
        Trial.same("TRAPPED", StackForge.TRAPPED, 3);
    }

    private static void numbersAtFirst() {
        StackForge x = new StackForge();
        for (int what = 0; what <= 11; what++) {
            Trial.same("count " + what, x.count(what), 0);
        }
        for (int at = 0; at < 64; at++) {
            Trial.same("memory " + at, x.memory(at), 0);
        }
        Trial.same("global 0", x.global(0), 0);
        Trial.same("global 1", x.global(1), 0);
        Trial.sameReal("global 2", x.realGlobal(), 0.0);
        Trial.same("wipe", x.wipe(), 0);
        Trial.same("argue", x.argue(9), 1);
    }

    private static void nothingIsThereAtFirst() {
        StackForge x = new StackForge();
        for (int f = 0; f < 6; f++) {
            int function = f;
            Trial.same("fault " + f, x.fault(f), 0);
            Trial.illegalState("start " + f, () -> x.start(function));
        }
        for (int place = 0; place < 8; place++) {
            Trial.same("table " + place, x.table(place, -1), -1);
        }
        Trial.illegalState("run", () -> x.run(1));
        Trial.illegalState("stop", () -> x.stop());
        Trial.illegalState("result", () -> x.result());
        Trial.illegalState("real", () -> x.real());
        Trial.same("check", x.check(), 0);
        // No PARAMETERS, LOCALS, RESULT: code without a shape is of that kind.
        Trial.write(x, 0, 6);
        Trial.same("fault of 6", x.fault(0), -1);
        Trial.write(x, 1, 15, 0, 6);
        Trial.same("fault of a variable", x.fault(1), 0);
        Trial.write(x, 2, 20, 0, 6);
        Trial.same("fault of a result", x.fault(2), 2);
        x.shape(1, 0, 0, 0);
        x.shape(2, 0, 0, 0);
        // There is code now, but it is not checked.
        Trial.illegalState("not checked", () -> x.start(0));
        x.check();
        x.argue(1);
        Trial.unsupported("an argument for no parameter", () -> x.start(0));
        StackForge y = new StackForge();
        Trial.write(y, 5, 6);
        y.check();
        Trial.same("start without arguments", y.start(5), 0);
        Trial.same("run", y.run(20), 1);
        Trial.noSuchElement("no result", () -> y.result());
        Trial.noSuchElement("no real", () -> y.real());
    }

    private static void nothingIsInTheTableAtFirst() {
        for (int place = 0; place < 8; place++) {
            StackForge x = Trial.forge(1, 0, 0, 15, 0, 12, 1, 6);
            Trial.traps("place " + place, 4, x, place);
        }
    }

    private static void objectsAreApart() {
        StackForge x = Trial.forge(0, 0, 0, 20, 7, 19, 0, 20, 3, 20, 5, 27, 0, 6);
        StackForge y = new StackForge();
        Trial.ended(x);
        x.table(3, 2);
        x.argue(1);
        Trial.same("global of x", x.global(0), 7);
        Trial.same("memory of x", x.memory(3), 5);
        Trial.same("length in y", y.count(6), 0);
        Trial.same("arguments of y", y.count(5), 0);
        Trial.same("checked in y", y.count(4), 0);
        Trial.same("table of y", y.table(3, -1), -1);
        Trial.same("global of y", y.global(0), 0);
        Trial.same("memory of y", y.memory(3), 0);
        Trial.same("phase of y", y.count(0), 0);
    }
}
