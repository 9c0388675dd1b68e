/** Promises 1 (a new object), 2 (make) and 3 (drop). */
final class MakeTest {
    private static final int REFUSED = FamilyProbes.REFUSED;
    private static final int VALUE = FamilyProbes.VALUE;
    private static final int NULL = FamilyProbes.NULL;

    public static void main(String[] args) {
        Due due = new Due();
        newObject(due);
        objectsShareNothing(due);
        makeOfEachKind(due);
        makeReplaces(due);
        repeaters(due);
        makeRefuses(due);
        drop(due);
        due.end();
    }

    private static void newObject(Due due) {
        FamilyProbes x = new FamilyProbes();
        due.is("new value()", x.value(), 0);
        due.is("new events()", x.events(), 0);
        due.is("new event(0)", x.event(0), REFUSED);
        for (int slot = 0; slot < 8; slot++) {
            due.is("new is(" + slot + ", 0)", x.is(slot, 0), false);
            due.is("new drop(" + slot + ")", x.drop(slot), NULL);
        }
        for (int row = 0; row < 4; row++) {
            for (int place = 0; place < 4; place++) {
                x.make(0, 0, 1);
                due.is("new load(" + row + ", " + place + ", 0)", x.load(row, place, 0), VALUE);
                due.is("then drop(0)", x.drop(0), NULL);
            }
        }
        x.make(0, 6, 0);
        due.value(x, "first CALL of a SHADOW", x.probe(0, 0, 0, 0, 0), 1);
    }

    private static void objectsShareNothing(Due due) {
        FamilyProbes x = new FamilyProbes();
        x.make(0, 6, 0);
        x.probe(0, 0, 1, 0, 0);
        x.make(1, 0, 5);
        x.store(0, 0, 1);
        newObject(due);
        due.is("events() of the other", x.events(), 1);
    }

    private static void makeOfEachKind(Due due) {
        int[] callOf10 = {13, 7, 14, 10, 12, 90, 14, 30, 13, 7};
        int[] eventsNoted = {1, 1, 1, 0, 0, 0, 0, 0, 0, 2};
        for (int kind = 0; kind < 10; kind++) {
            FamilyProbes x = new FamilyProbes();
            x.make(3, 0, 3);
            int before = x.events();
            due.is("make(1, " + kind + ", 3)", x.make(1, kind, 3), VALUE);
            due.is("events noted for kind " + kind, x.events() - before, eventsNoted[kind]);
            due.value(x, "CALL(10) of kind " + kind, x.probe(1, 0, 0, 10, 0), callOf10[kind]);
            due.is("the other slots", x.same(0, 2), true);
        }
        FamilyProbes x = new FamilyProbes();
        due.is("make(7, 0, 5)", x.make(7, 0, 5), VALUE);
        due.lastEvents(x, "a HOUND", 20);
        due.is("make(7, 1, 5)", x.make(7, 1, 5), VALUE);
        due.lastEvents(x, "a CAT", 20, 1);
        due.is("make(7, 2, 5)", x.make(7, 2, 5), VALUE);
        due.lastEvents(x, "a KITTEN", 20, 1, 35);
        due.is("make(7, 9, 5)", x.make(7, 9, 5), VALUE);
        due.lastEvents(x, "a STRAY", 20, 1, 35, 1, 6);
        x.make(0, 9, Integer.MAX_VALUE);
        due.lastEvents(x, "the EXTRA wraps", 1, Integer.MIN_VALUE);
        x.make(0, 2, Integer.MAX_VALUE);
        due.lastEvents(x, "the SEED wraps", Integer.MIN_VALUE + 29);
        due.is("events() in all", x.events(), 8);
        x.make(0, 4, -77);
        due.value(x, "wren's n is not looked at", x.probe(0, 8, 0, 1, 0), 3);
        x.make(0, 5, -77);
        due.value(x, "owl's n is not looked at", x.probe(0, 8, 0, 1, 0), 9);
    }

    private static void makeReplaces(Due due) {
        FamilyProbes x = new FamilyProbes();
        x.make(0, 0, 5);
        x.make(0, 1, 5);
        due.is("a CAT in place of a HOUND: is(0, 5)", x.is(0, 5), true);
        due.is("a CAT in place of a HOUND: is(0, 4)", x.is(0, 4), false);
    }

    private static void repeaters(Due due) {
        FamilyProbes x = new FamilyProbes();
        x.make(0, 7, 3);
        due.is("of an empty slot", x.make(0, 8, 1), NULL);
        due.value(x, "nothing was put", x.probe(0, 0, 0, 2, 0), 6);
        due.is("n & 7", x.make(1, 8, 8), VALUE);
        x.make(0, 7, 100);
        due.value(x, "as it was then", x.probe(1, 0, 0, 2, 0), 6);
        x.drop(0);
        due.value(x, "dropped since", x.probe(1, 0, 0, 2, 0), 6);
        due.is("into its own slot", x.make(1, 8, 1), VALUE);
        due.value(x, "two of them", x.probe(1, 0, 1, 2, 0), 18);
        due.is("three of them", x.make(1, 8, -7), VALUE);
        due.value(x, "three of them, probed", x.probe(1, 0, 1, 2, 0), 18);
        due.is("four of them", x.make(1, 8, 1), REFUSED);
        due.is("four of them, into another", x.make(2, 8, 1), REFUSED);
        due.is("nothing was put", x.drop(2), NULL);
        due.value(x, "three are left", x.probe(1, 0, 0, 2, 0), 6);
        x.make(4, 2, 1);
        x.make(5, 8, 4);
        due.value(x, "CALL of a KITTEN's REPEATER", x.probe(5, 0, 0, 4, 0), 6);
        due.value(x, "TWICE of a KITTEN's REPEATER", x.probe(5, 0, 1, 4, 0), 10);
        x.make(6, 6, 0);
        x.make(7, 8, 6);
        due.value(x, "a SHADOW's REPEATER counts", x.probe(7, 0, 0, 0, 0), 1);
        due.value(x, "both CALLS of TWICE", x.probe(7, 0, 1, 0, 0), 5);
        x.make(6, 6, 0);
        due.value(x, "the count is of all SHADOWS", x.probe(6, 0, 0, 0, 0), 4);
        due.is("a REPEATER notes no EVENT", x.events(), 1);
    }

    private static void makeRefuses(Due due) {
        FamilyProbes x = new FamilyProbes();
        int[] badSlots = {-1, 8, Integer.MIN_VALUE, Integer.MAX_VALUE};
        int[] badKinds = {-1, 10, Integer.MIN_VALUE, Integer.MAX_VALUE};
        for (int i = 0; i < 4; i++) {
            due.is("make into slot " + badSlots[i], x.make(badSlots[i], 0, 1), REFUSED);
            due.is("REPEATER into slot " + badSlots[i], x.make(badSlots[i], 8, 1), REFUSED);
            due.is("make of kind " + badKinds[i], x.make(0, badKinds[i], 1), REFUSED);
        }
        due.is("refused calls note no EVENT", x.events(), 0);
        due.is("refused calls put nothing", x.drop(0), NULL);
    }

    private static void drop(Due due) {
        FamilyProbes x = new FamilyProbes();
        for (int slot = 0; slot < 8; slot++) {
            x.make(slot, 3, slot);
        }
        for (int slot = 0; slot < 8; slot++) {
            due.is("drop(" + slot + ")", x.drop(slot), VALUE);
            due.is("drop(" + slot + ") again", x.drop(slot), NULL);
            due.is("is(" + slot + ", 7) after", x.is(slot, 7), false);
            if (slot < 7) {
                due.is("the next one stays", x.is(slot + 1, 7), true);
            }
        }
        due.is("drop(-1)", x.drop(-1), REFUSED);
        due.is("drop(8)", x.drop(8), REFUSED);
        due.is("drop(the least)", x.drop(Integer.MIN_VALUE), REFUSED);
        due.is("drop(the greatest)", x.drop(Integer.MAX_VALUE), REFUSED);
    }
}
