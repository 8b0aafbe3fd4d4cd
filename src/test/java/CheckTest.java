/** Promise 5: check. */
public final class CheckTest {
    public static void main(String[] args) {
        answersHowManyHaveCode();
        oneIsBad();
        dependsOnOthers();
        notWhileRunning();
        afterARun();
        Trial.finish();
    }

    private static void answersHowManyHaveCode() {
        StackForge x = new StackForge();
        Trial.same("none", x.check(), 0);
        Trial.same("checked", x.count(4), 1);
        for (int f = 5; f >= 0; f--) {
            Trial.write(x, f, 6);
            Trial.same("checked no more", x.count(4), 0);
            Trial.same("with " + f, x.check(), 6 - f);
            Trial.same("checked again", x.count(4), 1);
        }
        Trial.same("twice", x.check(), 6);
        x.shape(2, 1, 1, 1);
        Trial.same("one less", x.check(), 5);
    }

    private static void oneIsBad() {
        for (int bad = 0; bad < 6; bad++) {
            StackForge x = new StackForge();
            for (int f = 0; f < 6; f++) {
                Trial.write(x, f, f == bad ? 13 : 6);
            }
            Trial.unsupported("bad " + bad, () -> x.check());
            Trial.same("not checked", x.count(4), 0);
            int other = bad == 0 ? 1 : 0;
            Trial.illegalState("no start", () -> x.start(other));
            x.shape(bad, 0, 0, 0);
            Trial.same("without it", x.check(), 5);
            Trial.write(x, bad, 1);
            Trial.unsupported("too short", () -> x.check());
            Trial.write(x, bad, 6);
            Trial.same("with its end", x.check(), 6);
        }
    }

    private static void dependsOnOthers() {
        StackForge x = Trial.forge(0, 0, 0, 11, 3, 6);
        Trial.unsupported("no code to call", () -> x.check());
        Trial.define(x, 3, 0, 0, 0, 6);
        Trial.same("code to call", x.check(), 2);
        x.shape(3, 0, 0, 0);
        Trial.same("not checked", x.count(4), 0);
        Trial.unsupported("no code any more", () -> x.check());
        Trial.define(x, 3, 0, 1, 0, 20, 1, 6);
        Trial.unsupported("another result", () -> x.check());
        Trial.same("the place", x.fault(0), 2);
    }

    private static void notWhileRunning() {
        StackForge x = Trial.forge(0, 0, 0, 1, 6);
        x.check();
        x.start(0);
        Trial.illegalState("running", () -> x.check());
        Trial.same("checked", x.count(4), 1);
        x.run(20);
        Trial.same("done", x.check(), 1);
    }

    private static void afterARun() {
        StackForge x = Trial.forge(0, 0, 0, 0, 6);
        x.check();
        Trial.traps("0", 1, x);
        Trial.same("trapped", x.check(), 1);
        Trial.same("trapped still", x.count(0), 3);
        x.start(0);
        x.stop();
        Trial.same("idle", x.check(), 1);
    }
}
