/** Promises 14 (events) and 15 (event). */
final class EventsTest {
    private static final int REFUSED = FamilyProbes.REFUSED;

    public static void main(String[] args) {
        Due due = new Due();
        noneNotedYet(due);
        counts(due);
        countsOnlyWhatIsNoted(due);
        lastFirst(due);
        rangeOfEvent(due);
        noSuchEvent(due);
        lookedAtTwice(due);
        eventThatIsRefused(due);
        due.end();
    }

    /** A run in which as many EVENTS are noted: 30, 31, and so on. */
    private static Run withNoted(int many) {
        Run x = new Run();
        for (int i = 0; i < many; i++) {
            x.make(0, Kind.KITTEN, i);
        }
        return x;
    }

    private static void noneNotedYet(Due due) {
        due.test("14: EVENTS noted so far. (none)");
        Run x = new Run();
        due.is(x, x.events(), 0);
        x.make(0, Kind.OWL, 1);
        x.number(0, 1, 1);
        due.is(x, x.events(), 0);
    }

    private static void counts(Due due) {
        due.test("14: EVENTS noted so far.");
        Run x = new Run();
        for (int noted = 0; noted < 80; noted++) {
            due.is(x, x.events(), noted);
            x.make(0, Kind.CAT, noted);
        }
        x.make(0, Kind.STRAY, 1);
        due.is(x, x.events(), 82);
        x.flow(0, 1, 1);
        due.is(x, x.events(), 83);
        x.flow(1, 0, 0);
        due.is(x, x.events(), 88);
        x.flow(2, 0, 0);
        due.is(x, x.events(), 93);
        x.flow(2, 1, 0);
        due.is(x, x.events(), 96);
    }

    private static void countsOnlyWhatIsNoted(Due due) {
        due.test("14: EVENTS noted (calls that go otherwise note none)");
        Run x = Run.with(Kind.HOUND, 1);
        x.make(8, Kind.HOUND, 1);
        x.make(0, 10, 1);
        x.make(1, Kind.REPEATER, 2);
        x.make(1, Kind.REPEATER, 0);
        x.flow(7, 0, 0);
        x.flow(-1, 0, 0);
        x.flow(5, -1, 0);
        x.number(4, 1, 0);
        x.probe(0, Type.HOUND, Member.SEED, 0, 0);
        x.store(3, 0, 0);
        x.load(3, 0, 3);
        x.copy(3, 0, 1, 0, 4);
        x.compare(0, 3);
        x.drop(0);
        x.event(0);
        due.events(x, 20);
    }

    private static void lastFirst(Due due) {
        due.test("15: The i-th last EVENT (0 the last, to 15)");
        for (int noted = 1; noted <= 40; noted++) {
            Run x = withNoted(noted);
            for (int i = 0; i < 16 && i < noted; i++) {
                due.is(x, x.event(i), 30 + noted - 1 - i);
            }
        }
    }

    private static void rangeOfEvent(Due due) {
        due.test("15: to 15); REFUSED");
        int[] many = {0, 1, 15, 16, 17, 31, 32, 33, 48};
        for (int noted : many) {
            Run x = withNoted(noted);
            for (int i : Edge.beside(16)) {
                due.is(x, x.event(i), REFUSED);
            }
            due.is(x, x.event(15), noted > 15 ? 30 + noted - 16 : REFUSED);
            due.is(x, x.event(0), noted > 0 ? 30 + noted - 1 : REFUSED);
        }
    }

    private static void noSuchEvent(Due due) {
        due.test("15: REFUSED if there is none");
        for (int noted = 0; noted <= 17; noted++) {
            Run x = withNoted(noted);
            due.is(x, x.event(noted), REFUSED);
            due.is(x, x.event(noted + 1), REFUSED);
            if (noted > 0) {
                due.is(x, x.event(noted - 1), noted <= 16 ? 30 : REFUSED);
            }
        }
    }

    private static void lookedAtTwice(Due due) {
        due.test("15: The i-th last EVENT (stays when it is looked at)");
        Run x = withNoted(20);
        for (int i = 0; i < 3; i++) {
            due.is(x, x.event(15), 34);
            due.is(x, x.event(0), 49);
            due.is(x, x.events(), 20);
        }
    }

    private static void eventThatIsRefused(Due due) {
        due.test("15: (an EVENT may be that too)");
        due.events(Run.with(Kind.KITTEN, -31), REFUSED);
        due.events(Run.with(Kind.KITTEN, -30), 0);
        due.events(Run.with(Kind.KITTEN, -32), -2);
        due.events(Run.with(Kind.STRAY, -2), 1, REFUSED);
    }
}
