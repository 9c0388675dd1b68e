/** Promises 1 (a new object), 2 (make) and 3 (drop). */
final class MakeTest {
    private static final int REFUSED = FamilyProbes.REFUSED;
    private static final int VALUE = FamilyProbes.VALUE;
    private static final int NULL = FamilyProbes.NULL;
    private static final int[] NUMBERS = {Edge.LEAST, -1, 0, 1, Edge.GREATEST};

    public static void main(String[] args) {
        Due due = new Due();
        newObject(due);
        objectsShareNothing(due);
        slots(due);
        kinds(due);
        anyNumber(due);
        putsNewThing(due);
        numberOfBirds(due);
        slotOfRepeated(due);
        repeatedAsItIsNow(due);
        repeatedIsNone(due);
        deepestRepeater(due);
        refusesOutOfRange(due);
        refusedBeforeNull(due);
        drops(due);
        dropsNone(due);
        dropLeavesTheThing(due);
        dropRefuses(due);
        due.end();
    }

    private static void newObject(Due due) {
        due.test("1: makes an object in the state that the terms give");
        Run x = new Run();
        due.is(x, x.value(), 0);
        due.is(x, x.events(), 0);
        due.is(x, x.event(0), REFUSED);
        for (int slot = 0; slot < 8; slot++) {
            due.is(x, x.is(slot, Type.VOICE), false);
            due.is(x, x.same(slot, 7 - slot), true);
            due.is(x, x.drop(slot), NULL);
        }
        for (int at = 0; at < 16; at++) {
            x.make(0, Kind.WREN, 0);
            due.is(x, x.load(at / 4, at % 4, 0), VALUE);
            due.is(x, x.drop(0), NULL);
        }
        x.make(0, Kind.SHADOW, 0);
        due.value(x, x.probe(0, Type.VOICE, Member.CALL, 0, 0), 1);
    }

    private static void objectsShareNothing(Due due) {
        Run other = Run.with(Kind.SHADOW, 0);
        other.probe(0, Type.VOICE, Member.TWICE, 0, 0);
        other.make(1, Kind.HOUND, 5);
        other.store(0, 0, 1);
        newObject(due);
        due.value(other, other.probe(0, Type.VOICE, Member.CALL, 0, 0), 3);
        due.events(other, 20);
    }

    private static void slots(Due due) {
        due.test("2: into slot 0 .. 7: VALUE");
        Run x = new Run();
        due.is(x, x.make(-1, Kind.HOUND, 1), REFUSED);
        for (int slot = 0; slot < 8; slot++) {
            due.is(x, x.make(slot, Kind.HOUND, slot), VALUE);
        }
        due.is(x, x.make(8, Kind.HOUND, 1), REFUSED);
        for (int slot = 0; slot < 8; slot++) {
            due.value(x, x.probe(slot, Type.BASE, Member.SIZE, 0, 0), slot);
        }
    }

    private static void kinds(Due due) {
        due.test("2: a new thing of a kind 0 .. 9");
        int[] callOf10 = {13, 7, 14, 10, 12, 90, 14, 30, 13, 7};
        for (int kind = 0; kind < Kind.ALL; kind++) {
            Run x = new Run();
            x.make(3, Kind.HOUND, 3);
            due.is(x, x.make(1, kind, 3), VALUE);
            due.value(x, x.probe(1, Type.VOICE, Member.CALL, 10, 0), callOf10[kind]);
            due.is(x, x.same(0, 2), true);
        }
        Run x = Run.with(Kind.HOUND, 1);
        due.is(x, x.make(0, -1, 1), REFUSED);
        due.is(x, x.make(0, 10, 1), REFUSED);
        due.is(x, x.is(0, Type.HOUND), true);
    }

    private static void anyNumber(Due due) {
        due.test("2: with a number n");
        for (int n : NUMBERS) {
            for (int kind : Kind.BASES) {
                Run x = new Run();
                due.is(x, x.make(0, kind, n), VALUE);
                due.value(x, x.probe(0, Type.BASE, Member.SIZE, 0, 0), n);
            }
            Run x = Run.with(Kind.ECHO, n);
            due.value(x, x.probe(0, Type.ECHO, Member.SIZE, 0, 0), n);
            x.make(0, Kind.TIMES, n);
            due.value(x, x.probe(0, Type.VOICE, Member.CALL, 1, 0), n);
            x.make(0, Kind.SHADOW, n);
            due.value(x, x.probe(0, Type.VOICE, Member.CALL, -1, 0), n);
        }
    }

    private static void putsNewThing(Due due) {
        due.test("2: Puts a new thing");
        Run x = Run.with(Kind.CAT, 5);
        x.store(0, 0, 0);
        due.is(x, x.make(0, Kind.CAT, 5), VALUE);
        x.load(0, 0, 1);
        due.is(x, x.same(0, 1), false);
        x.make(0, Kind.HOUND, 5);
        due.is(x, x.is(0, Type.HOUND), true);
        due.is(x, x.is(0, Type.CAT), false);
    }

    private static void numberOfBirds(Due due) {
        due.test("2: (not looked at for the BIRDS)");
        for (int n : NUMBERS) {
            Run x = Run.with(Kind.WREN, n);
            due.value(x, x.probe(0, Type.BIRD, Member.CALL, 1, 0), 3);
            x.make(0, Kind.OWL, n);
            due.value(x, x.probe(0, Type.BIRD, Member.CALL, 1, 0), 9);
        }
    }

    private static void slotOfRepeated(Due due) {
        due.test("2: A REPEATER is made of the thing in slot n & 7");
        int[] numbers = {0, 1, 6, 7, 8, 15, 16, -1, -7, -8, Edge.LEAST, Edge.GREATEST};
        int[] slots = {0, 1, 6, 7, 0, 7, 0, 7, 1, 0, 0, 7};
        for (int i = 0; i < numbers.length; i++) {
            Run x = new Run();
            for (int slot = 0; slot < 8; slot++) {
                x.make(slot, Kind.TIMES, 100 + slot);
            }
            due.is(x, x.make(2, Kind.REPEATER, numbers[i]), VALUE);
            due.value(x, x.probe(2, Type.VOICE, Member.CALL, 1, 0), 100 + slots[i]);
        }
    }

    private static void repeatedAsItIsNow(Due due) {
        due.test("2: as it is there now");
        Run x = Run.with(Kind.TIMES, 3);
        x.make(1, Kind.REPEATER, 0);
        x.make(0, Kind.TIMES, 100);
        due.value(x, x.probe(1, Type.VOICE, Member.CALL, 2, 0), 6);
        x.drop(0);
        due.value(x, x.probe(1, Type.VOICE, Member.CALL, 2, 0), 6);
        due.is(x, x.make(1, Kind.REPEATER, 1), VALUE);
        due.value(x, x.probe(1, Type.VOICE, Member.TWICE, 2, 0), 18);
    }

    private static void repeatedIsNone(Due due) {
        due.test("2: NULL if that is empty, and nothing is put");
        Run x = Run.with(Kind.HOUND, 3);
        due.is(x, x.make(0, Kind.REPEATER, 1), NULL);
        due.is(x, x.is(0, Type.HOUND), true);
        due.is(x, x.make(2, Kind.REPEATER, 2), NULL);
        due.is(x, x.drop(2), NULL);
        due.is(x, x.make(2, Kind.REPEATER, -1), NULL);
        due.is(x, x.drop(2), NULL);
        due.is(x, x.make(2, Kind.REPEATER, 0), VALUE);
        due.is(x, x.drop(2), VALUE);
        x.drop(0);
        due.is(x, x.make(2, Kind.REPEATER, 0), NULL);
        due.events(x, 20);
    }

    private static void deepestRepeater(Due due) {
        due.test("2: REFUSED if that is a REPEATER of a REPEATER of a REPEATER.");
        for (int kind = 0; kind < Kind.REPEATER; kind++) {
            Run x = Run.with(kind, 2);
            due.is(x, x.make(1, Kind.REPEATER, 0), VALUE);
            due.is(x, x.make(2, Kind.REPEATER, 1), VALUE);
            due.is(x, x.make(3, Kind.REPEATER, 2), VALUE);
            due.is(x, x.make(4, Kind.REPEATER, 3), REFUSED);
            due.is(x, x.drop(4), NULL);
            due.is(x, x.make(2, Kind.REPEATER, 3), REFUSED);
            due.is(x, x.make(3, Kind.REPEATER, 3), REFUSED);
            x.store(0, 0, 3);
            x.load(0, 0, 7);
            due.is(x, x.make(7, Kind.REPEATER, 7), REFUSED);
            due.is(x, x.same(3, 7), true);
            due.is(x, x.make(7, Kind.REPEATER, 2), VALUE);
            due.is(x, x.make(7, Kind.REPEATER, 1), VALUE);
        }
        Run x = Run.with(Kind.TIMES, 3);
        for (int i = 0; i < 3; i++) {
            due.is(x, x.make(0, Kind.REPEATER, 0), VALUE);
        }
        due.is(x, x.make(0, Kind.REPEATER, 0), REFUSED);
        due.value(x, x.probe(0, Type.VOICE, Member.TWICE, 2, 0), 18);
    }

    private static void refusesOutOfRange(Due due) {
        due.test("2: REFUSED for numbers out of range.");
        Run x = Run.with(Kind.ECHO, 1);
        for (int slot : Edge.beside(8)) {
            due.is(x, x.make(slot, Kind.HOUND, 1), REFUSED);
            due.is(x, x.make(slot, Kind.WREN, 1), REFUSED);
            due.is(x, x.make(slot, Kind.REPEATER, 0), REFUSED);
        }
        for (int kind : Edge.beside(10)) {
            due.is(x, x.make(0, kind, 1), REFUSED);
            due.is(x, x.make(-1, kind, 1), REFUSED);
        }
        due.is(x, x.is(0, Type.ECHO), true);
        for (int slot = 1; slot < 8; slot++) {
            due.is(x, x.drop(slot), NULL);
        }
        due.events(x);
    }

    private static void refusedBeforeNull(Due due) {
        due.test("2: REFUSED for numbers out of range. (a REPEATER of none)");
        Run x = new Run();
        due.is(x, x.make(-1, Kind.REPEATER, 0), REFUSED);
        due.is(x, x.make(8, Kind.REPEATER, 0), REFUSED);
        due.is(x, x.make(7, Kind.REPEATER, 0), NULL);
    }

    private static void drops(Due due) {
        due.test("3: The slot is empty then: VALUE");
        Run x = new Run();
        for (int slot = 0; slot < 8; slot++) {
            x.make(slot, Kind.ECHO, slot);
        }
        for (int slot = 0; slot < 8; slot++) {
            due.is(x, x.drop(slot), VALUE);
            for (int other = 0; other < 8; other++) {
                due.is(x, x.is(other, Type.ECHO), other > slot);
            }
        }
    }

    private static void dropsNone(Due due) {
        due.test("3: or NULL if it was");
        for (int slot = 0; slot < 8; slot++) {
            Run x = new Run();
            due.is(x, x.drop(slot), NULL);
            x.make(slot, Kind.OWL, 1);
            due.is(x, x.drop(slot), VALUE);
            due.is(x, x.drop(slot), NULL);
        }
    }

    private static void dropLeavesTheThing(Due due) {
        due.test("3: The slot is empty then (the thing may be elsewhere too)");
        Run x = Run.with(Kind.TIMES, 3);
        x.store(0, 0, 0);
        x.load(0, 0, 1);
        x.make(2, Kind.REPEATER, 0);
        due.is(x, x.drop(0), VALUE);
        due.value(x, x.probe(1, Type.VOICE, Member.CALL, 2, 0), 6);
        due.value(x, x.probe(2, Type.VOICE, Member.CALL, 2, 0), 6);
        x.load(0, 0, 3);
        due.is(x, x.same(1, 3), true);
    }

    private static void dropRefuses(Due due) {
        due.test("3: REFUSED.");
        Run x = new Run();
        for (int slot = 0; slot < 8; slot++) {
            x.make(slot, Kind.ECHO, slot);
        }
        for (int slot : Edge.beside(8)) {
            due.is(x, x.drop(slot), REFUSED);
        }
        due.is(x, x.drop(0), VALUE);
        due.is(x, x.drop(7), VALUE);
        for (int slot = 1; slot < 7; slot++) {
            due.is(x, x.is(slot, Type.ECHO), true);
        }
    }
}
