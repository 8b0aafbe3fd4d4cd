/** What every instruction that is told by its number takes and puts, as CHECKING sees it. */
public final class SignaturesTest {
    public static void main(String[] args) {
        all("int", 30, 44, 1, 1, 1);
        all("int is 0", 45, 45, 1, 1);
        all("long", 50, 60, 2, 2, 2);
        all("long compared", 61, 63, 1, 2, 2);
        all("long is 0", 64, 64, 1, 2);
        all("double", 70, 73, 3, 3, 3);
        all("double compared", 74, 75, 1, 3, 3);
        all("0.0 less", 76, 76, 3, 3);
        all("convert", 80, 80, 1, 2);
        all("convert", 81, 81, 2, 1);
        all("convert", 82, 82, 3, 1);
        all("convert", 83, 83, 1, 3);
        all("convert", 84, 84, 3, 2);
        all("convert", 85, 85, 2, 1);
        all("put int", 20, 20, 1);
        all("put long", 21, 21, 2);
        all("put double", 22, 22, 3);
        all("load", 23, 24, 1, 1);
        all("load long", 25, 25, 2, 1);
        all("store", 26, 27, 0, 1, 1);
        all("store long", 28, 28, 0, 1, 2);
        all("nothing", 1, 1, 0);
        Trial.finish();
    }

    private static void all(String what, int from, int to, int puts, int... takes) {
        for (int number = from; number <= to; number++) {
            one(what + " " + number, number, puts, takes);
        }
    }

    private static void one(String what, int number, int puts, int... takes) {
        int[] self = number >= 20 && number <= 28 ? Trial.row(number, 0) : Trial.row(number);
        int[] right = pushes(takes);
        Trial.same(what, Trial.fault(0, puts, 0, Trial.join(right, self, Trial.row(6))), -1);
        for (int result = 0; result <= 3; result++) {
            if (result != puts) {
                Trial.same(what + " puts no " + result,
                        Trial.fault(0, result, 0, Trial.join(right, self, Trial.row(6))),
                        right.length + self.length);
            }
        }
        for (int i = 0; i < takes.length; i++) {
            for (int kind = 1; kind <= 3; kind++) {
                if (kind != takes[i]) {
                    int[] others = takes.clone();
                    others[i] = kind;
                    int[] wrong = pushes(others);
                    Trial.same(what + " takes no " + kind + " at " + i,
                            Trial.fault(0, puts, 0, Trial.join(wrong, self, Trial.row(10, 6))),
                            wrong.length);
                }
            }
        }
        if (takes.length > 0) {
            int[] fewer = pushes(java.util.Arrays.copyOfRange(takes, 1, takes.length));
            Trial.same(what + " with one less",
                    Trial.fault(0, puts, 0, Trial.join(fewer, self, Trial.row(10, 6))),
                    fewer.length);
        }
        // On dead ground it takes what it needs, and puts its kind.
        Trial.same(what + " on dead ground",
                Trial.fault(0, puts, 0, Trial.join(Trial.row(0), self, Trial.row(6))), -1);
    }

    private static int[] pushes(int... kinds) {
        int[] all = new int[0];
        for (int kind : kinds) {
            all = Trial.join(all, Trial.PUSH[kind]);
        }
        return all;
    }
}
