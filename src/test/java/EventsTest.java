/** Promises 14 (events) and 15 (event). */
final class EventsTest {
    private static final int REFUSED = FamilyProbes.REFUSED;

    public static void main(String[] args) {
        Due due = new Due();
        untilManyAreNoted(due);
        outOfRange(due);
        eventsThatLookRefused(due);
        asManyAsARunCanNote(due);
        due.end();
    }

    private static void untilManyAreNoted(Due due) {
        FamilyProbes x = new FamilyProbes();
        for (int noted = 0; noted <= 40; noted++) {
            due.is("events()", x.events(), noted);
            for (int i = 0; i < 20; i++) {
                int want = i < 16 && i < noted ? 30 + noted - 1 - i : REFUSED;
                due.is(noted + " noted: event(" + i + ")", x.event(i), want);
            }
            x.make(0, 2, noted);
        }
    }

    private static void outOfRange(Due due) {
        FamilyProbes x = new FamilyProbes();
        for (int i = 0; i < 10; i++) {
            x.flow(1, 0, 0);
        }
        int[] out = {-1, -2, -16, 16, 17, 32, Integer.MIN_VALUE, Integer.MAX_VALUE};
        for (int i : out) {
            due.is("event(" + i + ")", x.event(i), REFUSED);
        }
        due.is("event(15)", x.event(15), 5);
        due.is("events()", x.events(), 50);
    }

    private static void eventsThatLookRefused(Due due) {
        FamilyProbes x = new FamilyProbes();
        x.make(0, 2, -31);
        due.is("an EVENT of -1", x.event(0), -1);
        due.is("it counts", x.events(), 1);
        x.make(0, 9, -1);
        due.lastEvents(x, "an EXTRA of 0", -1, 1, 0);
    }

    private static void asManyAsARunCanNote(Due due) {
        FamilyProbes x = new FamilyProbes();
        for (int i = 0; i < 500; i++) {
            x.flow(2, 0, 0);
        }
        due.is("events()", x.events(), 2500);
        due.lastEvents(x, "500 times flow(2, 0, 0)",
                20, 10, 11, 12, 21, 20, 10, 11, 12, 21, 20, 10, 11, 12, 21, 20);
    }
}
