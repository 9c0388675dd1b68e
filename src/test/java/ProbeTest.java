/** Promises 4 (probe) and 5 (value). */
final class ProbeTest {
    private static final int REFUSED = FamilyProbes.REFUSED;
    private static final int VALUE = FamilyProbes.VALUE;
    private static final int CAST = FamilyProbes.CAST;
    private static final int NULL = FamilyProbes.NULL;
    private static final int STORE = FamilyProbes.STORE;
    private static final int INDEX = FamilyProbes.INDEX;
    private static final int ZERO = FamilyProbes.ZERO;
    private static final int SIZE = FamilyProbes.SIZE;

    public static void main(String[] args) {
        Due due = new Due();
        howItWent(due);
        refusesSlots(due);
        refusesTypes(due);
        refusesMembers(due);
        refusesManners(due);
        refusesBeforeNull(due);
        noSuchMember(due);
        nullBeforeCast(due);
        probeChangesNothing(due);
        noValueYet(due);
        valueOfTheLast(due);
        valueStaysIfNotValue(due);
        valueStaysAfterOtherCalls(due);
        due.end();
    }

    private static int wentDue(int kind, int type, int member) {
        if (!Member.isIn(type, member)) {
            return REFUSED;
        }
        if (!Member.needsThing(member)) {
            return VALUE;
        }
        if (kind < 0) {
            return NULL;
        }
        return Type.has(type, kind) ? VALUE : CAST;
    }

    private static void howItWent(Due due) {
        due.test("4: how it went: VALUE, CAST or NULL; REFUSED");
        for (int kind = -1; kind < Kind.ALL; kind++) {
            Run x = new Run();
            x.make(1, Kind.ECHO, 0);
            if (kind >= 0) {
                x.make(0, kind, 1);
            }
            for (int at = 0; at < Type.ALL * Member.ALL * 4; at++) {
                int type = at % Type.ALL;
                int member = at / Type.ALL % Member.ALL;
                due.is(x, x.probe(0, type, member, 3, at / (Type.ALL * Member.ALL)),
                        wentDue(kind, type, member));
            }
        }
    }

    private static Run withKittens() {
        Run x = new Run();
        for (int slot = 0; slot < 8; slot++) {
            x.make(slot, Kind.KITTEN, slot);
        }
        return x;
    }

    private static void refusesSlots(Due due) {
        due.test("4: REFUSED for numbers out of range (the slot)");
        Run x = withKittens();
        for (int slot : Edge.beside(8)) {
            due.is(x, x.probe(slot, Type.BASE, Member.SIZE, 1, 0), REFUSED);
            due.is(x, x.probe(slot, Type.VOICE, Member.TONE, 1, 0), REFUSED);
            due.is(x, x.probe(slot, Type.BASE, Member.RANK, 1, 0), REFUSED);
        }
        due.value(x, x.probe(7, Type.BASE, Member.SIZE, 1, 0), 7);
        due.value(x, x.probe(0, Type.BASE, Member.SIZE, 1, 0), 0);
    }

    private static void refusesTypes(Due due) {
        due.test("4: REFUSED for numbers out of range (the type)");
        Run x = withKittens();
        x.make(1, Kind.OWL, 0);
        for (int type : Edge.beside(9)) {
            due.is(x, x.probe(0, type, Member.CALL, 1, 0), REFUSED);
            due.is(x, x.probe(0, type, Member.TONE, 1, 0), REFUSED);
            due.is(x, x.probe(0, type, Member.RANK, 1, 0), REFUSED);
        }
        due.value(x, x.probe(0, 0, Member.CALL, 1, 0), 2);
        due.value(x, x.probe(1, 8, Member.CALL, 1, 0), 9);
    }

    private static void refusesMembers(Due due) {
        due.test("4: REFUSED for numbers out of range (the member)");
        Run x = withKittens();
        for (int member : Edge.beside(12)) {
            due.is(x, x.probe(1, Type.KITTEN, member, 1, 0), REFUSED);
            due.is(x, x.probe(1, Type.VOICE, member, 1, 0), REFUSED);
        }
        due.value(x, x.probe(1, Type.KITTEN, 0, 5, 0), 8);
        due.value(x, x.probe(1, Type.KITTEN, 11, 5, 0), 3);
    }

    private static void refusesManners(Due due) {
        due.test("4: REFUSED for numbers out of range (the manner)");
        Run x = withKittens();
        for (int manner : Edge.beside(4)) {
            due.is(x, x.probe(1, Type.KITTEN, Member.CALL, 5, manner), REFUSED);
            due.is(x, x.probe(1, Type.VOICE, Member.TONE, 5, manner), REFUSED);
            due.is(x, x.probe(1, Type.BASE, Member.RANK, 5, manner), REFUSED);
        }
        for (int manner = 0; manner < 4; manner++) {
            due.value(x, x.probe(1, Type.KITTEN, Member.CALL, 5, manner), 8);
        }
    }

    private static void refusesBeforeNull(Due due) {
        due.test("4: REFUSED for numbers out of range (of none, and of a thing of other type)");
        Run x = Run.with(Kind.ECHO, 1);
        for (int slot = 0; slot < 2; slot++) {
            due.is(x, x.probe(slot, 9, Member.CALL, 1, 0), REFUSED);
            due.is(x, x.probe(slot, Type.HOUND, 12, 1, 0), REFUSED);
            due.is(x, x.probe(slot, Type.HOUND, Member.CALL, 1, 4), REFUSED);
            due.is(x, x.probe(slot, Type.HOUND, Member.CALL, 1, -1), REFUSED);
            due.is(x, x.probe(slot, Type.HOUND, Member.CALL, 1, 3), slot == 0 ? CAST : NULL);
        }
    }

    private static void noSuchMember(Due due) {
        due.test("4: and if the type has no such member");
        for (int at = 0; at < Type.ALL * Member.ALL; at++) {
            int type = at % Type.ALL;
            int member = at / Type.ALL;
            if (!Member.isIn(type, member)) {
                Run x = Run.with(Kind.HOUND, 1);
                for (int kind = 0; kind < Kind.ALL; kind++) {
                    x.make(1, kind, 0);
                    due.is(x, x.probe(1, type, member, 1, kind & 3), REFUSED);
                }
                due.is(x, x.probe(7, type, member, 1, 0), REFUSED);
            }
        }
    }

    private static void nullBeforeCast(Due due) {
        due.test("4: (NULL is looked at before CAST.)");
        for (int type = 0; type < Type.ALL; type++) {
            for (int manner = 0; manner < 4; manner++) {
                Run x = new Run();
                due.is(x, x.probe(3, type, Member.CALL, 1, manner), NULL);
                x.make(3, Kind.SHADOW, 1);
                due.is(x, x.probe(3, type, Member.CALL, 1, manner),
                        type == Type.VOICE ? VALUE : CAST);
                x.drop(3);
                due.is(x, x.probe(3, type, Member.CALL, 1, manner), NULL);
            }
        }
    }

    private static void probeChangesNothing(Due due) {
        due.test("4: A PROBE (puts nothing, and notes nothing)");
        Run x = Run.with(Kind.HOUND, 5);
        x.store(0, 0, 0);
        for (int member = 0; member < Member.ALL; member++) {
            x.probe(0, Type.HOUND, member, 1, 0);
            x.probe(0, Type.BASE, member, 1, 0);
        }
        due.events(x, 20);
        x.load(0, 0, 1);
        due.is(x, x.same(0, 1), true);
    }

    private static void noValueYet(Due due) {
        due.test("5: 0 before the first one.");
        Run x = new Run();
        due.is(x, x.value(), 0);
        x.make(0, Kind.KITTEN, 5);
        x.store(0, 0, 0);
        x.drop(0);
        due.is(x, x.value(), 0);
        leaveNoValue(due, x);
        due.is(x, x.value(), 0);
        due.value(x, x.number(0, 1, 0), 1);
        due.value(x, x.number(0, 0, 0), 0);
    }

    /** Calls that could leave a value, but do not go VALUE. */
    private static void leaveNoValue(Due due, Run x) {
        x.make(0, Kind.ECHO, 5);
        x.make(1, Kind.HOUND, 5);
        x.drop(2);
        due.is(x, x.probe(0, Type.BASE, Member.CALL, 1, 0), CAST);
        due.is(x, x.probe(2, Type.BASE, Member.CALL, 1, 0), NULL);
        due.is(x, x.probe(0, Type.VOICE, Member.WEIGHT, 1, 0), REFUSED);
        due.is(x, x.probe(0, Type.VOICE, Member.CALL, 1, 4), REFUSED);
        due.is(x, x.compare(0, 1), CAST);
        due.is(x, x.compare(1, 2), NULL);
        due.is(x, x.compare(1, 8), REFUSED);
        due.is(x, x.flow(5, -1, 0), SIZE);
        due.is(x, x.flow(5, 3, 3), INDEX);
        due.is(x, x.flow(5, 1001, 0), REFUSED);
        due.is(x, x.flow(7, 1, 1), REFUSED);
        due.is(x, x.number(4, 1, 0), ZERO);
        due.is(x, x.number(10, 1, 1), REFUSED);
    }

    private static void valueOfTheLast(Due due) {
        due.test("5: The value of the last probe, compare, flow or number");
        Run x = Run.with(Kind.HOUND, 5);
        x.make(1, Kind.CAT, 6);
        due.value(x, x.probe(0, Type.VOICE, Member.CALL, 70, 0), 75);
        due.value(x, x.compare(0, 1), -1);
        due.value(x, x.flow(3, 1, 0), 2);
        due.value(x, x.number(0, 3, 0), 3);
        due.value(x, x.probe(7, Type.VOICE, Member.TONE, 0, 3), 5);
        due.value(x, x.probe(7, Type.BASE, Member.RANK, -1, 3), 0);
        due.value(x, x.compare(1, 0), 1);
        due.value(x, x.compare(1, 1), 0);
        due.value(x, x.flow(0, -9, 2), -4);
        due.is(x, x.value(), -4);
    }

    private static void valueStaysIfNotValue(Due due) {
        due.test("5: that went VALUE");
        Run x = new Run();
        due.value(x, x.number(0, 77, 0), 77);
        leaveNoValue(due, x);
        due.is(x, x.value(), 77);
    }

    private static void valueStaysAfterOtherCalls(Due due) {
        due.test("5: the last probe, compare, flow or number (and of no other call)");
        Run x = new Run();
        due.value(x, x.number(0, 77, 0), 77);
        due.is(x, x.make(3, Kind.HOUND, 9), VALUE);
        due.is(x, x.store(0, 0, 3), VALUE);
        due.is(x, x.store(2, 0, 3), STORE);
        due.is(x, x.load(0, 0, 4), VALUE);
        due.is(x, x.copy(0, 0, 1, 0, 4), VALUE);
        due.is(x, x.same(3, 4), true);
        due.is(x, x.is(3, Type.HOUND), true);
        due.is(x, x.event(0), 20);
        due.is(x, x.events(), 1);
        due.is(x, x.drop(3), VALUE);
        due.is(x, x.value(), 77);
    }
}
