import java.util.Random;

/** Runs of 512 calls, the same ones each time, with answers held against those of RealFamily. */
final class FamilyTest {
    private static final int RUNS = 1500;
    private static final int CALLS = 512;
    private static final int[] EDGES = {
        Integer.MIN_VALUE, Integer.MIN_VALUE + 1, -65536, -32769, -129, -2, 127, 255, 1000, 1001,
        32768, 65535, 16777217, Integer.MAX_VALUE - 1, Integer.MAX_VALUE
    };

    private final Due due = new Due();
    private final Random random = new Random(15);
    private FamilyProbes probes;
    private RealFamily real;

    public static void main(String[] args) {
        FamilyTest test = new FamilyTest();
        for (int run = 0; run < RUNS; run++) {
            test.probes = new FamilyProbes();
            test.real = new RealFamily();
            for (int call = 0; call < CALLS; call++) {
                test.callBoth("run " + run + ", call " + call + ": ");
            }
        }
        test.due.end();
    }

    /** A number of 0 .. bound - 1, and now and then one beside these. */
    private int upTo(int bound) {
        int luck = random.nextInt(80);
        return luck == 0 ? -1 : luck == 1 ? bound : luck == 2 ? any() : random.nextInt(bound);
    }

    private int any() {
        int luck = random.nextInt(4);
        return luck == 0 ? random.nextInt() : luck == 1 ? EDGES[random.nextInt(EDGES.length)]
                : random.nextInt(24) - 8;
    }

    private void callBoth(String at) {
        switch (random.nextInt(16)) {
            case 0, 1 -> make(at, upTo(8), upTo(10), any());
            case 2 -> drop(at, upTo(8));
            case 3, 4, 5, 6, 7 -> probe(at, new int[] {upTo(8), upTo(9), upTo(12), any(), upTo(4)});
            case 8 -> isAndSame(at, upTo(8), upTo(9), upTo(8));
            case 9, 10 -> store(at, upTo(4), upTo(4), upTo(8));
            case 11 -> load(at, upTo(4), upTo(4), upTo(8));
            case 12 -> copy(at, new int[] {upTo(4), upTo(5), upTo(4), upTo(5), upTo(5)});
            case 13 -> compare(at, upTo(8), upTo(8));
            case 14 -> flow(at, upTo(7), any(), any());
            default -> number(at, upTo(10), any(), any());
        }
        due.is(at + "value()", probes.value(), real.value());
        due.is(at + "events()", probes.events(), real.events());
        int i = upTo(16);
        due.is(at + "event(" + i + ")", probes.event(i), real.event(i));
    }

    private void make(String at, int slot, int kind, int n) {
        due.is(at + "make(" + slot + ", " + kind + ", " + n + ")",
                probes.make(slot, kind, n), real.make(slot, kind, n));
    }

    private void drop(String at, int slot) {
        due.is(at + "drop(" + slot + ")", probes.drop(slot), real.drop(slot));
    }

    private void probe(String at, int[] p) {
        due.is(at + "probe(" + p[0] + ", " + p[1] + ", " + p[2] + ", " + p[3] + ", " + p[4] + ")",
                probes.probe(p[0], p[1], p[2], p[3], p[4]),
                real.probe(p[0], p[1], p[2], p[3], p[4]));
    }

    private void isAndSame(String at, int slot, int type, int other) {
        due.is(at + "is(" + slot + ", " + type + ")", probes.is(slot, type), real.is(slot, type));
        due.is(at + "same(" + slot + ", " + other + ")",
                probes.same(slot, other), real.same(slot, other));
    }

    private void store(String at, int row, int place, int slot) {
        due.is(at + "store(" + row + ", " + place + ", " + slot + ")",
                probes.store(row, place, slot), real.store(row, place, slot));
    }

    private void load(String at, int row, int place, int slot) {
        due.is(at + "load(" + row + ", " + place + ", " + slot + ")",
                probes.load(row, place, slot), real.load(row, place, slot));
    }

    private void copy(String at, int[] p) {
        due.is(at + "copy(" + p[0] + ", " + p[1] + ", " + p[2] + ", " + p[3] + ", " + p[4] + ")",
                probes.copy(p[0], p[1], p[2], p[3], p[4]),
                real.copy(p[0], p[1], p[2], p[3], p[4]));
    }

    private void compare(String at, int a, int b) {
        due.is(at + "compare(" + a + ", " + b + ")", probes.compare(a, b), real.compare(a, b));
    }

    private void flow(String at, int program, int a, int b) {
        due.is(at + "flow(" + program + ", " + a + ", " + b + ")",
                probes.flow(program, a, b), real.flow(program, a, b));
    }

    private void number(String at, int which, int a, int b) {
        due.is(at + "number(" + which + ", " + a + ", " + b + ")",
                probes.number(which, a, b), real.number(which, a, b));
    }
}
