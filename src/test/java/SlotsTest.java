/** Promises 6 (is), 7 (same) and 11 (compare). */
final class SlotsTest {
    private static final int REFUSED = FamilyProbes.REFUSED;
    private static final int CAST = FamilyProbes.CAST;
    private static final int NULL = FamilyProbes.NULL;

    public static void main(String[] args) {
        Due due = new Due();
        isOfType(due);
        emptyIsOfNoType(due);
        isOutOfRange(due);
        sameThing(due);
        emptyOnesAreSame(due);
        sameOutOfRange(due);
        sameBirds(due);
        comparesSizes(due);
        comparesByWay(due);
        compareOfNone(due);
        compareOfNoBase(due);
        compareOfNoneAndNoBase(due);
        compareRefuses(due);
        due.end();
    }

    private static void isOfType(Due due) {
        due.test("6: Whether the thing in the slot is of the type");
        for (int kind = 0; kind < Kind.ALL; kind++) {
            for (int slot = 1; slot < 8; slot++) {
                Run x = Run.with(Kind.HOUND, 1);
                x.make(slot, kind, 0);
                for (int type = 0; type < Type.ALL; type++) {
                    due.is(x, x.is(slot, type), Type.has(type, kind));
                }
            }
        }
    }

    private static void emptyIsOfNoType(Due due) {
        due.test("6: false for an empty slot");
        for (int slot = 0; slot < 8; slot++) {
            Run x = new Run();
            for (int type = 0; type < Type.ALL; type++) {
                due.is(x, x.is(slot, type), false);
            }
            x.make(slot, Kind.WREN, 1);
            due.is(x, x.is(slot, Type.VOICE), true);
            x.drop(slot);
            due.is(x, x.is(slot, Type.VOICE), false);
        }
    }

    private static void isOutOfRange(Due due) {
        due.test("6: and for numbers out of range");
        Run x = new Run();
        for (int slot = 0; slot < 8; slot++) {
            x.make(slot, Kind.OWL, 1);
        }
        for (int slot : Edge.beside(8)) {
            due.is(x, x.is(slot, Type.VOICE), false);
            due.is(x, x.is(slot, Type.BIRD), false);
        }
        for (int type : Edge.beside(9)) {
            due.is(x, x.is(0, type), false);
            due.is(x, x.is(8, type), false);
        }
        due.is(x, x.is(0, 0), true);
        due.is(x, x.is(7, 8), true);
    }

    private static void sameThing(Due due) {
        due.test("7: Whether two slots hold the same thing");
        for (int kind = 0; kind < Kind.ALL; kind++) {
            Run x = Run.with(Kind.TIMES, 5);
            x.make(1, kind, 0);
            x.make(2, kind, 0);
            boolean oneThing = kind == Kind.WREN || kind == Kind.OWL;
            due.is(x, x.same(1, 1), true);
            due.is(x, x.same(1, 2), oneThing);
            due.is(x, x.same(0, 1), false);
            due.is(x, x.same(1, 3), false);
            due.is(x, x.same(3, 1), false);
            x.store(0, 0, 1);
            x.load(0, 0, 7);
            due.is(x, x.same(1, 7), true);
            due.is(x, x.same(7, 1), true);
        }
    }

    private static void emptyOnesAreSame(Due due) {
        due.test("7: (two empty ones do)");
        Run x = new Run();
        for (int a = 0; a < 8; a++) {
            for (int b = 0; b < 8; b++) {
                due.is(x, x.same(a, b), true);
            }
        }
        x.make(0, Kind.CAT, 1);
        due.is(x, x.same(0, 7), false);
        x.drop(0);
        due.is(x, x.same(0, 7), true);
    }

    private static void sameOutOfRange(Due due) {
        due.test("7: false for numbers out of range");
        Run x = Run.with(Kind.CAT, 1);
        for (int slot : Edge.beside(8)) {
            due.is(x, x.same(slot, 0), false);
            due.is(x, x.same(0, slot), false);
            due.is(x, x.same(slot, 7), false);
            due.is(x, x.same(7, slot), false);
            due.is(x, x.same(slot, slot), false);
            due.is(x, x.same(-1, slot), false);
        }
        due.is(x, x.same(7, 7), true);
        due.is(x, x.same(0, 0), true);
    }

    private static void sameBirds(Due due) {
        due.test("7: (A BIRD is one thing however often it is made.)");
        Run x = new Run();
        for (int slot = 0; slot < 8; slot++) {
            x.make(slot, slot % 2 == 0 ? Kind.WREN : Kind.OWL, slot);
        }
        for (int a = 0; a < 8; a++) {
            for (int b = 0; b < 8; b++) {
                due.is(x, x.same(a, b), a % 2 == b % 2);
            }
        }
    }

    private static void comparesSizes(Due due) {
        due.test("11: the value being -1, 0 or 1 by the SIZE of the first against the second");
        int[] sizes = {Edge.LEAST, Edge.LEAST + 1, -1, 0, 1, Edge.GREATEST - 1, Edge.GREATEST};
        for (int i = 0; i < sizes.length; i++) {
            for (int j = 0; j < sizes.length; j++) {
                for (int kind : Kind.BASES) {
                    Run x = Run.with(kind, sizes[i]);
                    x.make(7, Kind.CAT, sizes[j]);
                    int want = i < j ? -1 : i > j ? 1 : 0;
                    due.value(x, x.compare(0, 7), want);
                    due.value(x, x.compare(7, 0), -want);
                }
            }
        }
    }

    private static void comparesByWay(Due due) {
        due.test("11: Compares the things of two slots (one slot twice, one thing twice)");
        for (int kind : Kind.BASES) {
            Run x = Run.with(kind, -4);
            due.value(x, x.compare(0, 0), 0);
            x.store(1, 3, 0);
            x.load(1, 3, 7);
            due.value(x, x.compare(7, 0), 0);
        }
    }

    private static void compareOfNone(Due due) {
        due.test("11: NULL if a slot is empty");
        for (int kind : Kind.BASES) {
            Run x = Run.with(kind, 4);
            due.is(x, x.compare(0, 7), NULL);
            due.is(x, x.compare(7, 0), NULL);
            due.is(x, x.compare(6, 7), NULL);
            due.is(x, x.compare(7, 7), NULL);
            x.make(7, kind, 4);
            due.value(x, x.compare(0, 7), 0);
            x.drop(0);
            due.is(x, x.compare(0, 7), NULL);
            due.is(x, x.compare(7, 0), NULL);
        }
    }

    private static void compareOfNoBase(Due due) {
        due.test("11: CAST if one is no BASE");
        for (int kind : Kind.OTHERS) {
            for (int base : Kind.BASES) {
                Run x = Run.with(base, 4);
                x.make(1, kind, 0);
                due.is(x, x.compare(0, 1), CAST);
                due.is(x, x.compare(1, 0), CAST);
                due.is(x, x.compare(1, 1), CAST);
                due.is(x, x.value(), 0);
            }
        }
    }

    // Read here: the words stand in the order of looking, so NULL comes before CAST.
    private static void compareOfNoneAndNoBase(Due due) {
        due.test("11: NULL if a slot is empty; CAST if one is no BASE");
        for (int kind : Kind.OTHERS) {
            Run x = Run.with(Kind.HOUND, 4);
            x.make(1, kind, 0);
            due.is(x, x.compare(1, 5), NULL);
            due.is(x, x.compare(5, 1), NULL);
        }
    }

    private static void compareRefuses(Due due) {
        due.test("11: REFUSED.");
        Run x = Run.with(Kind.HOUND, 4);
        x.make(1, Kind.ECHO, 4);
        x.make(7, Kind.HOUND, 3);
        for (int slot : Edge.beside(8)) {
            for (int other = 0; other < 3; other++) {
                due.is(x, x.compare(slot, other), REFUSED);
                due.is(x, x.compare(other, slot), REFUSED);
            }
            due.is(x, x.compare(slot, slot), REFUSED);
        }
        due.is(x, x.value(), 0);
        due.value(x, x.compare(0, 7), 1);
    }
}
