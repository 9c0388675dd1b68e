import java.util.Random;

/** Runs of calls, the same ones each time, with answers held against those of RealFamily. */
final class FamilyTest {
    private static final int RUNS = 4000;
    // The most calls that one turn makes.
    private static final int MOST_IN_TURN = 3;
    private static final int[] EDGES = {
        Integer.MIN_VALUE, Integer.MIN_VALUE + 1, -65536, -32769, -129, -2, 127, 255, 1000, 1001,
        32768, 65535, 16777217, Integer.MAX_VALUE - 1, Integer.MAX_VALUE
    };

    private final Due due = new Due();
    private final Random random = new Random(15);
    private Run probes;
    private RealFamily real;

    public static void main(String[] args) {
        FamilyTest test = new FamilyTest();
        for (int run = 0; run < RUNS; run++) {
            test.due.test("all promises, run " + run);
            test.probes = new Run();
            test.real = new RealFamily();
            while (test.probes.callsLeft() >= MOST_IN_TURN) {
                test.callBoth();
            }
        }
        test.due.end();
    }

    /** A number of 0 .. bound - 1, and now and then one beside these. */
    private int upTo(int bound) {
        int luck = random.nextInt(80);
        return luck == 0 ? -1 : luck == 1 ? bound : luck == 2 ? any() : random.nextInt(bound);
    }

    private int any() {
        int luck = random.nextInt(4);
        return luck == 0 ? random.nextInt() : luck == 1 ? EDGES[random.nextInt(EDGES.length)]
                : random.nextInt(24) - 8;
    }

    private void callBoth() {
        switch (random.nextInt(16)) {
            case 0, 1 -> make(upTo(8), upTo(10), any());
            case 2 -> drop(upTo(8));
            case 3, 4, 5, 6, 7 -> probe(upTo(8), upTo(9), upTo(12), any(), upTo(4));
            case 8 -> isAndSame(upTo(8), upTo(9), upTo(8));
            case 9, 10 -> store(upTo(4), upTo(4), upTo(8));
            case 11 -> load(upTo(4), upTo(4), upTo(8));
            case 12 -> copy(upTo(4), upTo(5), upTo(4), upTo(5), upTo(5));
            case 13 -> compare(upTo(8), upTo(8));
            case 14 -> flow(upTo(7), any(), any());
            default -> number(upTo(10), any(), any());
        }
        switch (random.nextInt(4)) {
            case 0 -> due.is(probes, probes.events(), real.events());
            case 1 -> event(upTo(16));
            default -> due.is(probes, probes.value(), real.value());
        }
    }

    private void make(int slot, int kind, int n) {
        due.is(probes, probes.make(slot, kind, n), real.make(slot, kind, n));
    }

    private void drop(int slot) {
        due.is(probes, probes.drop(slot), real.drop(slot));
    }

    private void probe(int slot, int type, int member, int x, int manner) {
        due.is(probes, probes.probe(slot, type, member, x, manner),
                real.probe(slot, type, member, x, manner));
    }

    private void isAndSame(int slot, int type, int other) {
        due.is(probes, probes.is(slot, type), real.is(slot, type));
        due.is(probes, probes.same(slot, other), real.same(slot, other));
    }

    private void store(int row, int place, int slot) {
        due.is(probes, probes.store(row, place, slot), real.store(row, place, slot));
    }

    private void load(int row, int place, int slot) {
        due.is(probes, probes.load(row, place, slot), real.load(row, place, slot));
    }

    private void copy(int from, int at, int to, int there, int n) {
        due.is(probes, probes.copy(from, at, to, there, n), real.copy(from, at, to, there, n));
    }

    private void compare(int a, int b) {
        due.is(probes, probes.compare(a, b), real.compare(a, b));
    }

    private void flow(int program, int a, int b) {
        due.is(probes, probes.flow(program, a, b), real.flow(program, a, b));
    }

    private void number(int which, int a, int b) {
        due.is(probes, probes.number(which, a, b), real.number(which, a, b));
    }

    private void event(int i) {
        due.is(probes, probes.event(i), real.event(i));
    }
}
