/** What README.md tells of using the class: its two examples, with the answers told there. */
public final class ReadmeTest {
    public static void main(String[] args) {
        aSum();
        aTrap();
        Trial.finish();
    }

    private static void aSum() {
        StackForge forge = new StackForge();
        Trial.same("shape", forge.shape(0, 11, 1, 0), 2);
        Trial.same("code", forge.code(0, 0x0F000F011E06L, 6), 6);
        Trial.same("check", forge.check(), 1);
        Trial.same("argue", forge.argue(30), 1);
        Trial.same("argue", forge.argue(12), 2);
        Trial.same("start", forge.start(0), 2);
        Trial.same("run", forge.run(20), 4);
        Trial.same("phase", forge.count(0), StackForge.DONE);
        Trial.same("result", forge.result(), 42);
    }

    private static void aTrap() {
        StackForge forge = new StackForge();
        Trial.same("shape", forge.shape(2, 1, 1, 0), 1);
        Trial.same("code", forge.code(2, 0x14640F0021L, 5), 5);
        Trial.same("fault", forge.fault(2), 5);
        Trial.same("code", forge.code(2, 6, 1), 6);
        Trial.same("check", forge.check(), 1);
        Trial.same("argue", forge.argue(0), 1);
        Trial.same("start", forge.start(2), 1);
        Trial.thrown("run", ArithmeticException.class, () -> forge.run(20));
        Trial.same("steps", forge.count(1), 3);
        Trial.same("trap", forge.count(3), 2);
    }
}
