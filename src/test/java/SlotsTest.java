/** Promises 6 (is), 7 (same) and 11 (compare). */
final class SlotsTest {
    private static final int REFUSED = FamilyProbes.REFUSED;
    private static final int CAST = FamilyProbes.CAST;
    private static final int NULL = FamilyProbes.NULL;
    private static final int[] OUT = {-1, 8, 9, 31, 32, 40, Integer.MIN_VALUE, Integer.MAX_VALUE};

    public static void main(String[] args) {
        Due due = new Due();
        is(due);
        same(due);
        compare(due);
        compareInWrongCases(due);
        due.end();
    }

    private static void is(Due due) {
        FamilyProbes x = new FamilyProbes();
        x.make(7, 0, 1);
        for (int kind = 0; kind < 10; kind++) {
            due.is("make(3, " + kind + ", 7)", x.make(3, kind, 7), FamilyProbes.VALUE);
            for (int type = 0; type < 9; type++) {
                due.is("kind " + kind + ": is(3, " + type + ")", x.is(3, type),
                        ProbeTest.IS[kind].charAt(type) == 'X');
                due.is("empty: is(4, " + type + ")", x.is(4, type), false);
            }
        }
        x.make(0, 2, 1);
        for (int out : OUT) {
            due.is("is(" + out + ", 0)", x.is(out, 0), false);
            if (out != 8) {
                due.is("is(0, " + out + ")", x.is(0, out), false);
            }
        }
    }

    private static void same(Due due) {
        FamilyProbes x = new FamilyProbes();
        due.is("two empty ones", x.same(0, 7), true);
        x.make(0, 1, 5);
        x.make(1, 1, 5);
        due.is("itself", x.same(0, 0), true);
        due.is("a thing and none", x.same(0, 2), false);
        due.is("none and a thing", x.same(2, 0), false);
        due.is("two of the same kind and number", x.same(0, 1), false);
        x.store(0, 0, 0);
        x.load(0, 0, 2);
        due.is("by way of a row", x.same(0, 2), true);
        x.make(3, 4, 1);
        x.make(4, 4, 2);
        x.make(5, 5, 1);
        x.make(6, 5, 2);
        due.is("two wrens", x.same(3, 4), true);
        due.is("two owls", x.same(5, 6), true);
        due.is("a wren and an owl", x.same(3, 5), false);
        x.make(3, 8, 0);
        x.make(4, 8, 0);
        due.is("two REPEATERS of one thing", x.same(3, 4), false);
        due.is("a REPEATER and its thing", x.same(3, 0), false);
        for (int out : OUT) {
            due.is("same(" + out + ", 0)", x.same(out, 0), false);
            due.is("same(7, " + out + ")", x.same(7, out), false);
            due.is("same(" + out + ", itself)", x.same(out, out), false);
        }
    }

    private static void compare(Due due) {
        FamilyProbes x = new FamilyProbes();
        int[] baseKinds = {0, 1, 2, 9};
        int[] sizes = {Integer.MIN_VALUE, -3, 0, 4, Integer.MAX_VALUE};
        for (int one : sizes) {
            for (int other : sizes) {
                for (int kind : baseKinds) {
                    x.make(0, kind, one);
                    x.make(7, 1, other);
                    due.value(x, "kind " + kind + ", " + one + " against " + other,
                            x.compare(0, 7), Integer.compare(one, other));
                    due.value(x, other + " against kind " + kind + ", " + one,
                            x.compare(7, 0), Integer.compare(other, one));
                }
            }
        }
        due.value(x, "against itself", x.compare(7, 7), 0);
    }

    private static void compareInWrongCases(Due due) {
        FamilyProbes x = new FamilyProbes();
        x.make(0, 9, 4);
        x.make(2, 0, 1);
        int[] others = {3, 4, 5, 6, 7, 8};
        for (int kind : others) {
            x.make(1, kind, 2);
            due.is("STRAY against kind " + kind, x.compare(0, 1), CAST);
            due.is("kind " + kind + " against STRAY", x.compare(1, 0), CAST);
            due.is("kind " + kind + " against itself", x.compare(1, 1), CAST);
            due.is("kind " + kind + " against none", x.compare(1, 5), NULL);
            due.is("none against kind " + kind, x.compare(5, 1), NULL);
        }
        due.is("none against none", x.compare(5, 6), NULL);
        due.is("STRAY against none", x.compare(0, 5), NULL);
        due.is("none against STRAY", x.compare(5, 0), NULL);
        for (int out : OUT) {
            due.is("compare(" + out + ", 0)", x.compare(out, 0), REFUSED);
            due.is("compare(0, " + out + ")", x.compare(0, out), REFUSED);
            due.is("compare(5, " + out + ")", x.compare(5, out), REFUSED);
            due.is("compare(1, " + out + ")", x.compare(1, out), REFUSED);
        }
        due.is("no value was left", x.value(), 0);
    }
}
