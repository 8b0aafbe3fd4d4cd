/** Promise 4: table. */
public final class TableTest {
    public static void main(String[] args) {
        answersWhatWas();
        wrongNumbers();
        atAnyTime();
        Trial.finish();
    }

    private static void answersWhatWas() {
        StackForge x = new StackForge();
        for (int place = 0; place < 8; place++) {
            Trial.same("at first " + place, x.table(place, place % 6), -1);
        }
        for (int place = 0; place < 8; place++) {
            Trial.same("then " + place, x.table(place, -1), place % 6);
        }
        for (int place = 0; place < 8; place++) {
            Trial.same("empty " + place, x.table(place, 5), -1);
        }
        Trial.same("the same again", x.table(7, 5), 5);
        Trial.same("another", x.table(7, 0), 5);
        Trial.same("and what that was", x.table(7, -1), 0);
    }

    private static void wrongNumbers() {
        StackForge x = new StackForge();
        int[] places = {-1, 8, 9, Integer.MIN_VALUE, Integer.MAX_VALUE};
        for (int place : places) {
            Trial.illegalArgument("place " + place, () -> x.table(place, 0));
        }
        int[] functions = {-2, 6, 7, Integer.MIN_VALUE, Integer.MAX_VALUE};
        for (int function : functions) {
            Trial.illegalArgument("function " + function, () -> x.table(0, function));
        }
        Trial.same("nothing there", x.table(0, -1), -1);
    }

    private static void atAnyTime() {
        StackForge x = Trial.forge(0, 1, 0, 20, 4, 12, 1, 6);
        Trial.define(x, 1, 0, 1, 0, 20, 11, 6);
        Trial.define(x, 2, 0, 1, 0, 20, 22, 6);
        x.check();
        x.table(4, 1);
        Trial.same("checked still", x.count(4), 1);
        x.start(0);
        x.run(1);
        Trial.same("running", x.table(4, 2), 1);
        x.run(20);
        Trial.same("the later one", x.result(), 22);
        // What is in the table stays there when its function is given another shape.
        x.shape(2, 0, 0, 0);
        Trial.same("after shape", x.table(4, 2), 2);
    }
}
